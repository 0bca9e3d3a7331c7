/-! THE CLASS's FACE: further questions -/
/-! 97: PinBarrel.conflict(III)I -/
theorem b97 : mB 97 = cX8_conflict := rfl
theorem r97 : mR 97 = (some .int) := rfl
theorem d97_0 : decode cX8_conflict 0 = .ok (.aload_n 0, 1) := by decide +kernel
theorem d97_1 : decode cX8_conflict 1 = .ok (.iload_n 1, 1) := by decide +kernel
theorem d97_2 : decode cX8_conflict 2 = .ok (.invokevirtual 189, 3) := by decide +kernel
theorem d97_5 : decode cX8_conflict 5 = .ok (.aload_n 0, 1) := by decide +kernel
theorem d97_6 : decode cX8_conflict 6 = .ok (.iload_n 3, 1) := by decide +kernel
theorem d97_7 : decode cX8_conflict 7 = .ok (.iconst 0, 1) := by decide +kernel
theorem d97_8 : decode cX8_conflict 8 = .ok (.iconst 3, 1) := by decide +kernel
theorem d97_9 : decode cX8_conflict 9 = .ok (.invokevirtual 223, 3) := by decide +kernel
theorem d97_12 : decode cX8_conflict 12 = .ok (.aload_n 0, 1) := by decide +kernel
theorem d97_13 : decode cX8_conflict 13 = .ok (.getfield 12, 3) := by decide +kernel
theorem d97_16 : decode cX8_conflict 16 = .ok (.iload_n 1, 1) := by decide +kernel
theorem d97_17 : decode cX8_conflict 17 = .ok (.iload_n 2, 1) := by decide +kernel
theorem d97_18 : decode cX8_conflict 18 = .ok (.invokevirtual 227, 3) := by decide +kernel
theorem d97_21 : decode cX8_conflict 21 = .ok (.istore 4, 2) := by decide +kernel
theorem d97_23 : decode cX8_conflict 23 = .ok (.iload 4, 2) := by decide +kernel
theorem d97_25 : decode cX8_conflict 25 = .ok (.iconst (-1), 1) := by decide +kernel
theorem d97_26 : decode cX8_conflict 26 = .ok (.if_icmp .ne 5, 3) := by decide +kernel
theorem d97_29 : decode cX8_conflict 29 = .ok (.iconst (-1), 1) := by decide +kernel
theorem d97_30 : decode cX8_conflict 30 = .ok (.ireturn, 1) := by decide +kernel
theorem d97_31 : decode cX8_conflict 31 = .ok (.iload 4, 2) := by decide +kernel
theorem d97_33 : decode cX8_conflict 33 = .ok (.bipush 64, 2) := by decide +kernel
theorem d97_35 : decode cX8_conflict 35 = .ok (.idiv, 1) := by decide +kernel
theorem d97_36 : decode cX8_conflict 36 = .ok (.istore 5, 2) := by decide +kernel
theorem d97_38 : decode cX8_conflict 38 = .ok (.iload 4, 2) := by decide +kernel
theorem d97_40 : decode cX8_conflict 40 = .ok (.bipush 64, 2) := by decide +kernel
theorem d97_42 : decode cX8_conflict 42 = .ok (.irem, 1) := by decide +kernel
theorem d97_43 : decode cX8_conflict 43 = .ok (.istore 6, 2) := by decide +kernel
theorem d97_45 : decode cX8_conflict 45 = .ok (.iload_n 3, 1) := by decide +kernel
theorem d97_46 : decode cX8_conflict 46 = .ok (.tableswitch 45 0 2 #[26, 29, 32], 26) := by decide +kernel
theorem d97_72 : decode cX8_conflict 72 = .ok (.iload 5, 2) := by decide +kernel
theorem d97_74 : decode cX8_conflict 74 = .ok (.ireturn, 1) := by decide +kernel
theorem d97_75 : decode cX8_conflict 75 = .ok (.iload 6, 2) := by decide +kernel
theorem d97_77 : decode cX8_conflict 77 = .ok (.ireturn, 1) := by decide +kernel
theorem d97_78 : decode cX8_conflict 78 = .ok (.aload_n 0, 1) := by decide +kernel
theorem d97_79 : decode cX8_conflict 79 = .ok (.getfield 12, 3) := by decide +kernel
theorem d97_82 : decode cX8_conflict 82 = .ok (.iload_n 1, 1) := by decide +kernel
theorem d97_83 : decode cX8_conflict 83 = .ok (.iload 5, 2) := by decide +kernel
theorem d97_85 : decode cX8_conflict 85 = .ok (.iload 6, 2) := by decide +kernel
theorem d97_87 : decode cX8_conflict 87 = .ok (.invokevirtual 230, 3) := by decide +kernel
theorem d97_90 : decode cX8_conflict 90 = .ok (.ireturn, 1) := by decide +kernel
theorem d97_91 : decode cX8_conflict 91 = .ok (.aload_n 0, 1) := by decide +kernel
theorem d97_92 : decode cX8_conflict 92 = .ok (.getfield 12, 3) := by decide +kernel
theorem d97_95 : decode cX8_conflict 95 = .ok (.iload_n 1, 1) := by decide +kernel
theorem d97_96 : decode cX8_conflict 96 = .ok (.iload 5, 2) := by decide +kernel
theorem d97_98 : decode cX8_conflict 98 = .ok (.iload 6, 2) := by decide +kernel
theorem d97_100 : decode cX8_conflict 100 = .ok (.invokevirtual 234, 3) := by decide +kernel
theorem d97_103 : decode cX8_conflict 103 = .ok (.ireturn, 1) := by decide +kernel
theorem v97_0 {w : PW} {Q : PO → PW → Prop} {x1 : Int} {x2 : Int} {x3 : Int} (hs : Sh w) (hx1 : bd x1) (hx2 : bd x2) (hx3 : bd x3) (h : (bd ((gI w 1 1) - 1)) ∧ ((0 ≤ x1 ∧ x1 < gI w 1 1) → ((0 ≤ x3 ∧ x3 ≤ 3) → pC 95 [.ref 1, iv x1, iv x2] w (kI fun u4 w3 => Sh w3 ∧ (u4 ≠ ((-1)) → (x3 < 0 ∨ 2 < x3 → pC 91 [.ref 1, iv x1, iv (u4.tdiv 64), iv (u4.tmod 64)] w3 (kI fun u8 w7 => Sh w7 ∧ Q (.inl (some (iv u8))) w7)) ∧ (x3 = 0 → Q (.inl (some (iv (u4.tdiv 64)))) w3) ∧ (x3 = 1 → Q (.inl (some (iv (u4.tmod 64)))) w3) ∧ (x3 = 2 → pC 96 [.ref 1, iv x1, iv (u4.tdiv 64), iv (u4.tmod 64)] w3 (kI fun u10 w9 => Sh w9 ∧ Q (.inl (some (iv u10))) w9))) ∧ (u4 = ((-1)) → Q (.inl (some (iv ((-1))))) w3))) ∧ (¬ (0 ≤ x3 ∧ x3 ≤ 3) → Q (.inr 1) w)) ∧ (¬ (0 ≤ x1 ∧ x1 < gI w 1 1) → Q (.inr 1) w)) : pX 97 0 [some (.ref 0), some (iv x1), some (iv x2), some (iv x3), none, none, none] [] w Q :=
  w_f b97 d97_0 rfl rfl rfl <| w_f b97 d97_1 rfl rfl rfl <| w_cc b97 d97_2 rfl (pcl_v (n := 1) rfl rfl rfl (by decide +kernel) (sh_isOb hs (tlt 0 rfl) tbC_0) rfl rfl) rfl <| c77 hs hx1 h.1 (fun c1 => w_f b97 d97_5 rfl rfl rfl <| w_f b97 d97_6 rfl rfl rfl <| w_f b97 d97_7 rfl rfl rfl <| w_f b97 d97_8 rfl rfl rfl <| w_cc b97 d97_9 rfl (pcl_v (n := 3) rfl rfl rfl (by decide +kernel) (sh_isOb hs (tlt 0 rfl) tbC_0) rfl rfl) rfl <| c76 hs hx3 ⟨by decide, by decide⟩ ⟨by decide, by decide⟩ (fun c2 => w_f b97 d97_12 rfl rfl rfl <| w_gr b97 d97_13 rfl rfl hs (tlt 0 rfl) tbC_0 rfl (bxr0 (bxc 1 rfl)) <| w_f b97 d97_16 rfl rfl rfl <| w_f b97 d97_17 rfl rfl rfl <| w_c b97 d97_18 rfl (pcl_v (n := 2) rfl rfl rfl (by decide +kernel) (sh_isOb hs (bx00 (bxc 1 rfl)) (tb0 (bxc 1 rfl))) rfl rfl) rfl _ (hK_I fun u4 w3 hbu4 hkw3 => w_f b97 d97_21 rfl rfl rfl <| w_f b97 d97_23 rfl rfl rfl <| w_f b97 d97_25 rfl rfl rfl <| w_icne b97 d97_26 rfl rfl (by decide +kernel) hbu4 ⟨by decide, by decide⟩ (fun c5 => w_f b97 d97_31 rfl rfl rfl <| w_f b97 d97_33 rfl rfl rfl <| w_f b97 d97_35 rfl (pf_idiv hbu4 ⟨by decide, by decide⟩) rfl <| w_f b97 d97_36 rfl rfl rfl <| w_f b97 d97_38 rfl rfl rfl <| w_f b97 d97_40 rfl rfl rfl <| w_f b97 d97_42 rfl (pf_irem hbu4 ⟨by decide, by decide⟩) rfl <| w_f b97 d97_43 rfl rfl rfl <| w_f b97 d97_45 rfl rfl rfl <| Decidable.byCases (p := x3 < 0 ∨ 2 < x3) (fun c6 => w_tsO b97 d97_46 rfl (by decide +kernel) hx3 c6 <| w_f b97 d97_91 rfl rfl rfl <| w_gr b97 d97_92 rfl rfl hkw3.1 (tlt 0 rfl) tbC_0 rfl (bxr0 (bxc 1 rfl)) <| w_f b97 d97_95 rfl rfl rfl <| w_f b97 d97_96 rfl rfl rfl <| w_f b97 d97_98 rfl rfl rfl <| w_c b97 d97_100 rfl (pcl_v (n := 3) rfl rfl rfl (by decide +kernel) (sh_isOb hkw3.1 (bx00 (bxc 1 rfl)) (tb0 (bxc 1 rfl))) rfl rfl) rfl _ (hK_I fun u8 w7 hbu8 hkw7 => w_ri b97 d97_103 r97 hkw7.2) ((hkw3.2.1 c5).1 c6)) (fun cz => Decidable.byCases (p := x3 = 0) (fun c6 => w_tsI (off := 26) b97 d97_46 rfl (by decide +kernel) hx3 cz (by rw [c6]; rfl) <| w_f b97 d97_72 rfl rfl rfl <| w_ri b97 d97_74 r97 ((hkw3.2.1 c5).2.1 c6)) (fun cn0 => Decidable.byCases (p := x3 = 1) (fun c6 => w_tsI (off := 29) b97 d97_46 rfl (by decide +kernel) hx3 cz (by rw [c6]; rfl) <| w_f b97 d97_75 rfl rfl rfl <| w_ri b97 d97_77 r97 ((hkw3.2.1 c5).2.2.1 c6)) (fun cn1 => have c6 : x3 = 2 := by omega
  w_tsI (off := 32) b97 d97_46 rfl (by decide +kernel) hx3 cz (by rw [c6]; rfl) <| w_f b97 d97_78 rfl rfl rfl <| w_gr b97 d97_79 rfl rfl hkw3.1 (tlt 0 rfl) tbC_0 rfl (bxr0 (bxc 1 rfl)) <| w_f b97 d97_82 rfl rfl rfl <| w_f b97 d97_83 rfl rfl rfl <| w_f b97 d97_85 rfl rfl rfl <| w_c b97 d97_87 rfl (pcl_v (n := 3) rfl rfl rfl (by decide +kernel) (sh_isOb hkw3.1 (bx00 (bxc 1 rfl)) (tb0 (bxc 1 rfl))) rfl rfl) rfl _ (hK_I fun u10 w9 hbu10 hkw9 => w_ri b97 d97_90 r97 hkw9.2) ((hkw3.2.1 c5).2.2.2 c6))))) (fun c5 => w_f b97 d97_29 rfl rfl rfl <| w_ri b97 d97_30 r97 (hkw3.2.2 c5))) ((h.2.1 c1).1 c2)) (fun c2 => (h.2.1 c1).2 c2)) (fun c1 => h.2.2 c1)
theorem e97 {w : PW} {Q : PO → PW → Prop} {x1 : Int} {x2 : Int} {x3 : Int} (hs : Sh w) (hx1 : bd x1) (hx2 : bd x2) (hx3 : bd x3) (h : (bd ((gI w 1 1) - 1)) ∧ ((0 ≤ x1 ∧ x1 < gI w 1 1) → ((0 ≤ x3 ∧ x3 ≤ 3) → pC 95 [.ref 1, iv x1, iv x2] w (kI fun u4 w3 => Sh w3 ∧ (u4 ≠ ((-1)) → (x3 < 0 ∨ 2 < x3 → pC 91 [.ref 1, iv x1, iv (u4.tdiv 64), iv (u4.tmod 64)] w3 (kI fun u8 w7 => Sh w7 ∧ Q (.inl (some (iv u8))) w7)) ∧ (x3 = 0 → Q (.inl (some (iv (u4.tdiv 64)))) w3) ∧ (x3 = 1 → Q (.inl (some (iv (u4.tmod 64)))) w3) ∧ (x3 = 2 → pC 96 [.ref 1, iv x1, iv (u4.tdiv 64), iv (u4.tmod 64)] w3 (kI fun u10 w9 => Sh w9 ∧ Q (.inl (some (iv u10))) w9))) ∧ (u4 = ((-1)) → Q (.inl (some (iv ((-1))))) w3))) ∧ (¬ (0 ≤ x3 ∧ x3 ≤ 3) → Q (.inr 1) w)) ∧ (¬ (0 ≤ x1 ∧ x1 < gI w 1 1) → Q (.inr 1) w)) : pC 97 [.ref 0, iv x1, iv x2, iv x3] w Q :=
  (pC_in (Nat.le_of_ble_eq_true rfl) rfl Q).mpr (v97_0 hs hx1 hx2 hx3 h)
/-! 104: PinBarrel.collision(II)I -/
theorem b104 : mB 104 = cX8_collision := rfl
theorem r104 : mR 104 = (some .int) := rfl
theorem d104_0 : decode cX8_collision 0 = .ok (.aload_n 0, 1) := by decide +kernel
theorem d104_1 : decode cX8_collision 1 = .ok (.iload_n 2, 1) := by decide +kernel
theorem d104_2 : decode cX8_collision 2 = .ok (.iconst 0, 1) := by decide +kernel
theorem d104_3 : decode cX8_collision 3 = .ok (.iconst 5, 1) := by decide +kernel
theorem d104_4 : decode cX8_collision 4 = .ok (.invokevirtual 223, 3) := by decide +kernel
theorem d104_7 : decode cX8_collision 7 = .ok (.aload_n 0, 1) := by decide +kernel
theorem d104_8 : decode cX8_collision 8 = .ok (.getfield 12, 3) := by decide +kernel
theorem d104_11 : decode cX8_collision 11 = .ok (.iload_n 1, 1) := by decide +kernel
theorem d104_12 : decode cX8_collision 12 = .ok (.invokevirtual 237, 3) := by decide +kernel
theorem d104_15 : decode cX8_collision 15 = .ok (.istore_n 3, 1) := by decide +kernel
theorem d104_16 : decode cX8_collision 16 = .ok (.iload_n 3, 1) := by decide +kernel
theorem d104_17 : decode cX8_collision 17 = .ok (.iconst (-1), 1) := by decide +kernel
theorem d104_18 : decode cX8_collision 18 = .ok (.if_icmp .ne 5, 3) := by decide +kernel
theorem d104_21 : decode cX8_collision 21 = .ok (.iconst (-1), 1) := by decide +kernel
theorem d104_22 : decode cX8_collision 22 = .ok (.ireturn, 1) := by decide +kernel
theorem d104_23 : decode cX8_collision 23 = .ok (.iload_n 2, 1) := by decide +kernel
theorem d104_24 : decode cX8_collision 24 = .ok (.iconst 3, 1) := by decide +kernel
theorem d104_25 : decode cX8_collision 25 = .ok (.if_icmp .ge 7, 3) := by decide +kernel
theorem d104_28 : decode cX8_collision 28 = .ok (.iconst 1, 1) := by decide +kernel
theorem d104_29 : decode cX8_collision 29 = .ok (.goto 4, 3) := by decide +kernel
theorem d104_32 : decode cX8_collision 32 = .ok (.iconst 0, 1) := by decide +kernel
theorem d104_33 : decode cX8_collision 33 = .ok (.istore 4, 2) := by decide +kernel
theorem d104_35 : decode cX8_collision 35 = .ok (.iload_n 3, 1) := by decide +kernel
theorem d104_36 : decode cX8_collision 36 = .ok (.sipush 4096, 3) := by decide +kernel
theorem d104_39 : decode cX8_collision 39 = .ok (.idiv, 1) := by decide +kernel
theorem d104_40 : decode cX8_collision 40 = .ok (.iload 4, 2) := by decide +kernel
theorem d104_42 : decode cX8_collision 42 = .ok (.ifCond .eq 7, 3) := by decide +kernel
theorem d104_45 : decode cX8_collision 45 = .ok (.iconst 0, 1) := by decide +kernel
theorem d104_46 : decode cX8_collision 46 = .ok (.goto 4, 3) := by decide +kernel
theorem d104_49 : decode cX8_collision 49 = .ok (.iconst 1, 1) := by decide +kernel
theorem d104_50 : decode cX8_collision 50 = .ok (.iadd, 1) := by decide +kernel
theorem d104_51 : decode cX8_collision 51 = .ok (.istore 5, 2) := by decide +kernel
theorem d104_53 : decode cX8_collision 53 = .ok (.iload 4, 2) := by decide +kernel
theorem d104_55 : decode cX8_collision 55 = .ok (.ifCond .eq 7, 3) := by decide +kernel
theorem d104_58 : decode cX8_collision 58 = .ok (.iload_n 2, 1) := by decide +kernel
theorem d104_59 : decode cX8_collision 59 = .ok (.goto 6, 3) := by decide +kernel
theorem d104_62 : decode cX8_collision 62 = .ok (.iload_n 2, 1) := by decide +kernel
theorem d104_63 : decode cX8_collision 63 = .ok (.iconst 3, 1) := by decide +kernel
theorem d104_64 : decode cX8_collision 64 = .ok (.isub, 1) := by decide +kernel
theorem d104_65 : decode cX8_collision 65 = .ok (.lookupswitch 47 #[(0, 27), (1, 37)], 27) := by decide +kernel
theorem d104_92 : decode cX8_collision 92 = .ok (.aload_n 0, 1) := by decide +kernel
theorem d104_93 : decode cX8_collision 93 = .ok (.getfield 12, 3) := by decide +kernel
theorem d104_96 : decode cX8_collision 96 = .ok (.iload 5, 2) := by decide +kernel
theorem d104_98 : decode cX8_collision 98 = .ok (.invokevirtual 240, 3) := by decide +kernel
theorem d104_101 : decode cX8_collision 101 = .ok (.ireturn, 1) := by decide +kernel
theorem d104_102 : decode cX8_collision 102 = .ok (.aload_n 0, 1) := by decide +kernel
theorem d104_103 : decode cX8_collision 103 = .ok (.getfield 12, 3) := by decide +kernel
theorem d104_106 : decode cX8_collision 106 = .ok (.iload 5, 2) := by decide +kernel
theorem d104_108 : decode cX8_collision 108 = .ok (.invokevirtual 243, 3) := by decide +kernel
theorem d104_111 : decode cX8_collision 111 = .ok (.ireturn, 1) := by decide +kernel
theorem d104_112 : decode cX8_collision 112 = .ok (.iload 4, 2) := by decide +kernel
theorem d104_114 : decode cX8_collision 114 = .ok (.ifCond .eq 13, 3) := by decide +kernel
theorem d104_117 : decode cX8_collision 117 = .ok (.iload_n 3, 1) := by decide +kernel
theorem d104_118 : decode cX8_collision 118 = .ok (.bipush 64, 2) := by decide +kernel
theorem d104_120 : decode cX8_collision 120 = .ok (.idiv, 1) := by decide +kernel
theorem d104_121 : decode cX8_collision 121 = .ok (.bipush 64, 2) := by decide +kernel
theorem d104_123 : decode cX8_collision 123 = .ok (.irem, 1) := by decide +kernel
theorem d104_124 : decode cX8_collision 124 = .ok (.goto 7, 3) := by decide +kernel
theorem d104_127 : decode cX8_collision 127 = .ok (.iload_n 3, 1) := by decide +kernel
theorem d104_128 : decode cX8_collision 128 = .ok (.bipush 64, 2) := by decide +kernel
theorem d104_130 : decode cX8_collision 130 = .ok (.irem, 1) := by decide +kernel
theorem d104_131 : decode cX8_collision 131 = .ok (.ireturn, 1) := by decide +kernel
theorem v104_0 {w : PW} {Q : PO → PW → Prop} {x1 : Int} {x2 : Int} (hs : Sh w) (hx1 : bd x1) (hx2 : bd x2) (h : ((0 ≤ x2 ∧ x2 ≤ 5) → pC 101 [.ref 1, iv x1] w (kI fun u3 w2 => Sh w2 ∧ (u3 ≠ ((-1)) → (3 ≤ x2 → pX 104 33 [some (.ref 0), some (iv x1), some (iv x2), some (iv u3), none, none] [iv 0] w2 Q) ∧ (x2 < 3 → pX 104 33 [some (.ref 0), some (iv x1), some (iv x2), some (iv u3), none, none] [iv 1] w2 Q)) ∧ (u3 = ((-1)) → Q (.inl (some (iv ((-1))))) w2))) ∧ (¬ (0 ≤ x2 ∧ x2 ≤ 5) → Q (.inr 1) w)) : pX 104 0 [some (.ref 0), some (iv x1), some (iv x2), none, none, none] [] w Q :=
  w_f b104 d104_0 rfl rfl rfl <| w_f b104 d104_1 rfl rfl rfl <| w_f b104 d104_2 rfl rfl rfl <| w_f b104 d104_3 rfl rfl rfl <| w_cc b104 d104_4 rfl (pcl_v (n := 3) rfl rfl rfl (by decide +kernel) (sh_isOb hs (tlt 0 rfl) tbC_0) rfl rfl) rfl <| c76 hs hx2 ⟨by decide, by decide⟩ ⟨by decide, by decide⟩ (fun c1 => w_f b104 d104_7 rfl rfl rfl <| w_gr b104 d104_8 rfl rfl hs (tlt 0 rfl) tbC_0 rfl (bxr0 (bxc 1 rfl)) <| w_f b104 d104_11 rfl rfl rfl <| w_c b104 d104_12 rfl (pcl_v (n := 1) rfl rfl rfl (by decide +kernel) (sh_isOb hs (bx00 (bxc 1 rfl)) (tb0 (bxc 1 rfl))) rfl rfl) rfl _ (hK_I fun u3 w2 hbu3 hkw2 => w_f b104 d104_15 rfl rfl rfl <| w_f b104 d104_16 rfl rfl rfl <| w_f b104 d104_17 rfl rfl rfl <| w_icne b104 d104_18 rfl rfl (by decide +kernel) hbu3 ⟨by decide, by decide⟩ (fun c4 => w_f b104 d104_23 rfl rfl rfl <| w_f b104 d104_24 rfl rfl rfl <| w_icge b104 d104_25 rfl rfl (by decide +kernel) hx2 ⟨by decide, by decide⟩ (fun c5 => w_f b104 d104_32 rfl rfl rfl <| ((hkw2.2.1 c4).1 c5)) (fun c5 => w_f b104 d104_28 rfl rfl rfl <| w_j b104 d104_29 rfl (by decide +kernel) <| ((hkw2.2.1 c4).2 c5))) (fun c4 => w_f b104 d104_21 rfl rfl rfl <| w_ri b104 d104_22 r104 (hkw2.2.2 c4))) (h.1 c1)) (fun c1 => h.2 c1)
theorem e104 {w : PW} {Q : PO → PW → Prop} {x1 : Int} {x2 : Int} (hs : Sh w) (hx1 : bd x1) (hx2 : bd x2) (h : ((0 ≤ x2 ∧ x2 ≤ 5) → pC 101 [.ref 1, iv x1] w (kI fun u3 w2 => Sh w2 ∧ (u3 ≠ ((-1)) → (3 ≤ x2 → pX 104 33 [some (.ref 0), some (iv x1), some (iv x2), some (iv u3), none, none] [iv 0] w2 Q) ∧ (x2 < 3 → pX 104 33 [some (.ref 0), some (iv x1), some (iv x2), some (iv u3), none, none] [iv 1] w2 Q)) ∧ (u3 = ((-1)) → Q (.inl (some (iv ((-1))))) w2))) ∧ (¬ (0 ≤ x2 ∧ x2 ≤ 5) → Q (.inr 1) w)) : pC 104 [.ref 0, iv x1, iv x2] w Q :=
  (pC_in (Nat.le_of_ble_eq_true rfl) rfl Q).mpr (v104_0 hs hx1 hx2 h)
theorem v104_33 {w : PW} {Q : PO → PW → Prop} {x1 : Int} {x2 : Int} {x3 : Int} {o4 : Option Value} {o5 : Option Value} {z0 : Int} (hs : Sh w) (hx1 : bd x1) (hx2 : bd x2) (hx3 : bd x3) (ho4 : pc2 o4 = false) (ho5 : pc2 o5 = false) (hz0 : bd z0) (h : (z0 = 0 → (z0 = 0 → (bd (x2 - 3)) ∧ ((x2 - 3) = 0 → (bd ((x3.tdiv 4096) + 1)) ∧ (1 ≤ gI w 1 1) ∧ Q (.inl (some (iv (((x3.tdiv 4096) + 1).tmod (gI w 1 1))))) w) ∧ ((x2 - 3) = 1 → (bd ((x3.tdiv 4096) + 1)) ∧ (1 ≤ gI w 1 1) ∧ Q (.inl (some (iv (((x3.tdiv 4096) + 1).tdiv (gI w 1 1))))) w) ∧ (((x2 - 3) ≠ 0 ∧ (x2 - 3) ≠ 1) → (z0 = 0 → Q (.inl (some (iv (x3.tmod 64)))) w) ∧ (z0 ≠ 0 → (bd (x3.tdiv 64)) ∧ Q (.inl (some (iv ((x3.tdiv 64).tmod 64)))) w))) ∧ (z0 ≠ 0 → (x2 = 0 → (bd ((x3.tdiv 4096) + 1)) ∧ (1 ≤ gI w 1 1) ∧ Q (.inl (some (iv (((x3.tdiv 4096) + 1).tmod (gI w 1 1))))) w) ∧ (x2 = 1 → (bd ((x3.tdiv 4096) + 1)) ∧ (1 ≤ gI w 1 1) ∧ Q (.inl (some (iv (((x3.tdiv 4096) + 1).tdiv (gI w 1 1))))) w) ∧ ((x2 ≠ 0 ∧ x2 ≠ 1) → (z0 = 0 → Q (.inl (some (iv (x3.tmod 64)))) w) ∧ (z0 ≠ 0 → (bd (x3.tdiv 64)) ∧ Q (.inl (some (iv ((x3.tdiv 64).tmod 64)))) w)))) ∧ (z0 ≠ 0 → (z0 = 0 → (bd (x2 - 3)) ∧ ((x2 - 3) = 0 → (bd ((x3.tdiv 4096) + 0)) ∧ (1 ≤ gI w 1 1) ∧ Q (.inl (some (iv (((x3.tdiv 4096) + 0).tmod (gI w 1 1))))) w) ∧ ((x2 - 3) = 1 → (bd ((x3.tdiv 4096) + 0)) ∧ (1 ≤ gI w 1 1) ∧ Q (.inl (some (iv (((x3.tdiv 4096) + 0).tdiv (gI w 1 1))))) w) ∧ (((x2 - 3) ≠ 0 ∧ (x2 - 3) ≠ 1) → (z0 = 0 → Q (.inl (some (iv (x3.tmod 64)))) w) ∧ (z0 ≠ 0 → (bd (x3.tdiv 64)) ∧ Q (.inl (some (iv ((x3.tdiv 64).tmod 64)))) w))) ∧ (z0 ≠ 0 → (x2 = 0 → (bd ((x3.tdiv 4096) + 0)) ∧ (1 ≤ gI w 1 1) ∧ Q (.inl (some (iv (((x3.tdiv 4096) + 0).tmod (gI w 1 1))))) w) ∧ (x2 = 1 → (bd ((x3.tdiv 4096) + 0)) ∧ (1 ≤ gI w 1 1) ∧ Q (.inl (some (iv (((x3.tdiv 4096) + 0).tdiv (gI w 1 1))))) w) ∧ ((x2 ≠ 0 ∧ x2 ≠ 1) → (z0 = 0 → Q (.inl (some (iv (x3.tmod 64)))) w) ∧ (z0 ≠ 0 → (bd (x3.tdiv 64)) ∧ Q (.inl (some (iv ((x3.tdiv 64).tmod 64)))) w))))) : pX 104 33 [some (.ref 0), some (iv x1), some (iv x2), some (iv x3), o4, o5] [iv z0] w Q :=
  w_f b104 d104_33 rfl rfl rfl <| w_f b104 d104_35 rfl rfl rfl <| w_f b104 d104_36 rfl rfl rfl <| w_f b104 d104_39 rfl (pf_idiv hx3 ⟨by decide, by decide⟩) rfl <| w_f b104 d104_40 rfl rfl rfl <| w_ifeq b104 d104_42 rfl rfl (by decide +kernel) hz0 (fun c1 => w_f b104 d104_49 rfl rfl rfl <| w_f b104 d104_50 rfl (pf_iadd (x3.tdiv 4096) 1) rfl <| w_f b104 d104_51 rfl rfl rfl <| w_f b104 d104_53 rfl rfl rfl <| w_ifeq b104 d104_55 rfl rfl (by decide +kernel) hz0 (fun c2 => w_f b104 d104_62 rfl rfl rfl <| w_f b104 d104_63 rfl rfl rfl <| w_f b104 d104_64 rfl (pf_isub x2 3) rfl <| Decidable.byCases (p := (x2 - 3) = 0) (fun c3 => w_lsw (off := 27) b104 d104_65 rfl (by decide +kernel) ((h.1 c1).1 c2).1 (by decide +kernel) (by rw [c3]; decide +kernel) <| w_f b104 d104_92 rfl rfl rfl <| w_gr b104 d104_93 rfl rfl hs (tlt 0 rfl) tbC_0 rfl (bxr0 (bxc 1 rfl)) <| w_f b104 d104_96 rfl rfl rfl <| w_cc b104 d104_98 rfl (pcl_v (n := 1) rfl rfl rfl (by decide +kernel) (sh_isOb hs (bx00 (bxc 1 rfl)) (tb0 (bxc 1 rfl))) rfl rfl) rfl <| c102 hs (bxc 1 rfl) (((h.1 c1).1 c2).2.1 c3).1 (((h.1 c1).1 c2).2.1 c3).2.1 <| w_ri b104 d104_101 r104 (((h.1 c1).1 c2).2.1 c3).2.2) (fun cn0 => Decidable.byCases (p := (x2 - 3) = 1) (fun c3 => w_lsw (off := 37) b104 d104_65 rfl (by decide +kernel) ((h.1 c1).1 c2).1 (by decide +kernel) (by rw [c3]; decide +kernel) <| w_f b104 d104_102 rfl rfl rfl <| w_gr b104 d104_103 rfl rfl hs (tlt 0 rfl) tbC_0 rfl (bxr0 (bxc 1 rfl)) <| w_f b104 d104_106 rfl rfl rfl <| w_cc b104 d104_108 rfl (pcl_v (n := 1) rfl rfl rfl (by decide +kernel) (sh_isOb hs (bx00 (bxc 1 rfl)) (tb0 (bxc 1 rfl))) rfl rfl) rfl <| c103 hs (bxc 1 rfl) (((h.1 c1).1 c2).2.2.1 c3).1 (((h.1 c1).1 c2).2.2.1 c3).2.1 <| w_ri b104 d104_111 r104 (((h.1 c1).1 c2).2.2.1 c3).2.2) (fun cn1 => w_lsw (off := 47) b104 d104_65 rfl (by decide +kernel) ((h.1 c1).1 c2).1 (by decide +kernel) (lsd2 cn0 cn1) <| have c3 := ⟨cn0, cn1⟩
  w_f b104 d104_112 rfl rfl rfl <| w_ifeq b104 d104_114 rfl rfl (by decide +kernel) hz0 (fun c4 => w_f b104 d104_127 rfl rfl rfl <| w_f b104 d104_128 rfl rfl rfl <| w_f b104 d104_130 rfl (pf_irem hx3 ⟨by decide, by decide⟩) rfl <| w_ri b104 d104_131 r104 ((((h.1 c1).1 c2).2.2.2 c3).1 c4)) (fun c4 => w_f b104 d104_117 rfl rfl rfl <| w_f b104 d104_118 rfl rfl rfl <| w_f b104 d104_120 rfl (pf_idiv hx3 ⟨by decide, by decide⟩) rfl <| w_f b104 d104_121 rfl rfl rfl <| w_f b104 d104_123 rfl (pf_irem ((((h.1 c1).1 c2).2.2.2 c3).2 c4).1 ⟨by decide, by decide⟩) rfl <| w_j b104 d104_124 rfl (by decide +kernel) <| w_ri b104 d104_131 r104 ((((h.1 c1).1 c2).2.2.2 c3).2 c4).2)))) (fun c2 => w_f b104 d104_58 rfl rfl rfl <| w_j b104 d104_59 rfl (by decide +kernel) <| Decidable.byCases (p := x2 = 0) (fun c5 => w_lsw (off := 27) b104 d104_65 rfl (by decide +kernel) hx2 (by decide +kernel) (by rw [c5]; decide +kernel) <| w_f b104 d104_92 rfl rfl rfl <| w_gr b104 d104_93 rfl rfl hs (tlt 0 rfl) tbC_0 rfl (bxr0 (bxc 1 rfl)) <| w_f b104 d104_96 rfl rfl rfl <| w_cc b104 d104_98 rfl (pcl_v (n := 1) rfl rfl rfl (by decide +kernel) (sh_isOb hs (bx00 (bxc 1 rfl)) (tb0 (bxc 1 rfl))) rfl rfl) rfl <| c102 hs (bxc 1 rfl) (((h.1 c1).2 c2).1 c5).1 (((h.1 c1).2 c2).1 c5).2.1 <| w_ri b104 d104_101 r104 (((h.1 c1).2 c2).1 c5).2.2) (fun cn0 => Decidable.byCases (p := x2 = 1) (fun c5 => w_lsw (off := 37) b104 d104_65 rfl (by decide +kernel) hx2 (by decide +kernel) (by rw [c5]; decide +kernel) <| w_f b104 d104_102 rfl rfl rfl <| w_gr b104 d104_103 rfl rfl hs (tlt 0 rfl) tbC_0 rfl (bxr0 (bxc 1 rfl)) <| w_f b104 d104_106 rfl rfl rfl <| w_cc b104 d104_108 rfl (pcl_v (n := 1) rfl rfl rfl (by decide +kernel) (sh_isOb hs (bx00 (bxc 1 rfl)) (tb0 (bxc 1 rfl))) rfl rfl) rfl <| c103 hs (bxc 1 rfl) (((h.1 c1).2 c2).2.1 c5).1 (((h.1 c1).2 c2).2.1 c5).2.1 <| w_ri b104 d104_111 r104 (((h.1 c1).2 c2).2.1 c5).2.2) (fun cn1 => w_lsw (off := 47) b104 d104_65 rfl (by decide +kernel) hx2 (by decide +kernel) (lsd2 cn0 cn1) <| have c5 := ⟨cn0, cn1⟩
  w_f b104 d104_112 rfl rfl rfl <| w_ifeq b104 d104_114 rfl rfl (by decide +kernel) hz0 (fun c6 => w_f b104 d104_127 rfl rfl rfl <| w_f b104 d104_128 rfl rfl rfl <| w_f b104 d104_130 rfl (pf_irem hx3 ⟨by decide, by decide⟩) rfl <| w_ri b104 d104_131 r104 ((((h.1 c1).2 c2).2.2 c5).1 c6)) (fun c6 => w_f b104 d104_117 rfl rfl rfl <| w_f b104 d104_118 rfl rfl rfl <| w_f b104 d104_120 rfl (pf_idiv hx3 ⟨by decide, by decide⟩) rfl <| w_f b104 d104_121 rfl rfl rfl <| w_f b104 d104_123 rfl (pf_irem ((((h.1 c1).2 c2).2.2 c5).2 c6).1 ⟨by decide, by decide⟩) rfl <| w_j b104 d104_124 rfl (by decide +kernel) <| w_ri b104 d104_131 r104 ((((h.1 c1).2 c2).2.2 c5).2 c6).2))))) (fun c1 => w_f b104 d104_45 rfl rfl rfl <| w_j b104 d104_46 rfl (by decide +kernel) <| w_f b104 d104_50 rfl (pf_iadd (x3.tdiv 4096) 0) rfl <| w_f b104 d104_51 rfl rfl rfl <| w_f b104 d104_53 rfl rfl rfl <| w_ifeq b104 d104_55 rfl rfl (by decide +kernel) hz0 (fun c7 => w_f b104 d104_62 rfl rfl rfl <| w_f b104 d104_63 rfl rfl rfl <| w_f b104 d104_64 rfl (pf_isub x2 3) rfl <| Decidable.byCases (p := (x2 - 3) = 0) (fun c8 => w_lsw (off := 27) b104 d104_65 rfl (by decide +kernel) ((h.2 c1).1 c7).1 (by decide +kernel) (by rw [c8]; decide +kernel) <| w_f b104 d104_92 rfl rfl rfl <| w_gr b104 d104_93 rfl rfl hs (tlt 0 rfl) tbC_0 rfl (bxr0 (bxc 1 rfl)) <| w_f b104 d104_96 rfl rfl rfl <| w_cc b104 d104_98 rfl (pcl_v (n := 1) rfl rfl rfl (by decide +kernel) (sh_isOb hs (bx00 (bxc 1 rfl)) (tb0 (bxc 1 rfl))) rfl rfl) rfl <| c102 hs (bxc 1 rfl) (((h.2 c1).1 c7).2.1 c8).1 (((h.2 c1).1 c7).2.1 c8).2.1 <| w_ri b104 d104_101 r104 (((h.2 c1).1 c7).2.1 c8).2.2) (fun cn0 => Decidable.byCases (p := (x2 - 3) = 1) (fun c8 => w_lsw (off := 37) b104 d104_65 rfl (by decide +kernel) ((h.2 c1).1 c7).1 (by decide +kernel) (by rw [c8]; decide +kernel) <| w_f b104 d104_102 rfl rfl rfl <| w_gr b104 d104_103 rfl rfl hs (tlt 0 rfl) tbC_0 rfl (bxr0 (bxc 1 rfl)) <| w_f b104 d104_106 rfl rfl rfl <| w_cc b104 d104_108 rfl (pcl_v (n := 1) rfl rfl rfl (by decide +kernel) (sh_isOb hs (bx00 (bxc 1 rfl)) (tb0 (bxc 1 rfl))) rfl rfl) rfl <| c103 hs (bxc 1 rfl) (((h.2 c1).1 c7).2.2.1 c8).1 (((h.2 c1).1 c7).2.2.1 c8).2.1 <| w_ri b104 d104_111 r104 (((h.2 c1).1 c7).2.2.1 c8).2.2) (fun cn1 => w_lsw (off := 47) b104 d104_65 rfl (by decide +kernel) ((h.2 c1).1 c7).1 (by decide +kernel) (lsd2 cn0 cn1) <| have c8 := ⟨cn0, cn1⟩
  w_f b104 d104_112 rfl rfl rfl <| w_ifeq b104 d104_114 rfl rfl (by decide +kernel) hz0 (fun c9 => w_f b104 d104_127 rfl rfl rfl <| w_f b104 d104_128 rfl rfl rfl <| w_f b104 d104_130 rfl (pf_irem hx3 ⟨by decide, by decide⟩) rfl <| w_ri b104 d104_131 r104 ((((h.2 c1).1 c7).2.2.2 c8).1 c9)) (fun c9 => w_f b104 d104_117 rfl rfl rfl <| w_f b104 d104_118 rfl rfl rfl <| w_f b104 d104_120 rfl (pf_idiv hx3 ⟨by decide, by decide⟩) rfl <| w_f b104 d104_121 rfl rfl rfl <| w_f b104 d104_123 rfl (pf_irem ((((h.2 c1).1 c7).2.2.2 c8).2 c9).1 ⟨by decide, by decide⟩) rfl <| w_j b104 d104_124 rfl (by decide +kernel) <| w_ri b104 d104_131 r104 ((((h.2 c1).1 c7).2.2.2 c8).2 c9).2)))) (fun c7 => w_f b104 d104_58 rfl rfl rfl <| w_j b104 d104_59 rfl (by decide +kernel) <| Decidable.byCases (p := x2 = 0) (fun c10 => w_lsw (off := 27) b104 d104_65 rfl (by decide +kernel) hx2 (by decide +kernel) (by rw [c10]; decide +kernel) <| w_f b104 d104_92 rfl rfl rfl <| w_gr b104 d104_93 rfl rfl hs (tlt 0 rfl) tbC_0 rfl (bxr0 (bxc 1 rfl)) <| w_f b104 d104_96 rfl rfl rfl <| w_cc b104 d104_98 rfl (pcl_v (n := 1) rfl rfl rfl (by decide +kernel) (sh_isOb hs (bx00 (bxc 1 rfl)) (tb0 (bxc 1 rfl))) rfl rfl) rfl <| c102 hs (bxc 1 rfl) (((h.2 c1).2 c7).1 c10).1 (((h.2 c1).2 c7).1 c10).2.1 <| w_ri b104 d104_101 r104 (((h.2 c1).2 c7).1 c10).2.2) (fun cn0 => Decidable.byCases (p := x2 = 1) (fun c10 => w_lsw (off := 37) b104 d104_65 rfl (by decide +kernel) hx2 (by decide +kernel) (by rw [c10]; decide +kernel) <| w_f b104 d104_102 rfl rfl rfl <| w_gr b104 d104_103 rfl rfl hs (tlt 0 rfl) tbC_0 rfl (bxr0 (bxc 1 rfl)) <| w_f b104 d104_106 rfl rfl rfl <| w_cc b104 d104_108 rfl (pcl_v (n := 1) rfl rfl rfl (by decide +kernel) (sh_isOb hs (bx00 (bxc 1 rfl)) (tb0 (bxc 1 rfl))) rfl rfl) rfl <| c103 hs (bxc 1 rfl) (((h.2 c1).2 c7).2.1 c10).1 (((h.2 c1).2 c7).2.1 c10).2.1 <| w_ri b104 d104_111 r104 (((h.2 c1).2 c7).2.1 c10).2.2) (fun cn1 => w_lsw (off := 47) b104 d104_65 rfl (by decide +kernel) hx2 (by decide +kernel) (lsd2 cn0 cn1) <| have c10 := ⟨cn0, cn1⟩
  w_f b104 d104_112 rfl rfl rfl <| w_ifeq b104 d104_114 rfl rfl (by decide +kernel) hz0 (fun c11 => w_f b104 d104_127 rfl rfl rfl <| w_f b104 d104_128 rfl rfl rfl <| w_f b104 d104_130 rfl (pf_irem hx3 ⟨by decide, by decide⟩) rfl <| w_ri b104 d104_131 r104 ((((h.2 c1).2 c7).2.2 c10).1 c11)) (fun c11 => w_f b104 d104_117 rfl rfl rfl <| w_f b104 d104_118 rfl rfl rfl <| w_f b104 d104_120 rfl (pf_idiv hx3 ⟨by decide, by decide⟩) rfl <| w_f b104 d104_121 rfl rfl rfl <| w_f b104 d104_123 rfl (pf_irem ((((h.2 c1).2 c7).2.2 c10).2 c11).1 ⟨by decide, by decide⟩) rfl <| w_j b104 d104_124 rfl (by decide +kernel) <| w_ri b104 d104_131 r104 ((((h.2 c1).2 c7).2.2 c10).2 c11).2)))))
def sp97 (m : Row) (x1 x2 x3 : Int) : PO := spU m x1 (spR 0 3 x3 (rI (if sel (sCfP m x1.toNat) x2 (64 * (m 4).toNat) = -1 then -1 else
  if x3 = 0 then sel (sCfP m x1.toNat) x2 (64 * (m 4).toNat) / 64 else if x3 = 1 then sel (sCfP m x1.toNat) x2 (64 * (m 4).toNat) % 64 else
  if x3 = 2 then (wN (m 0).toNat ((sel (sCfP m x1.toNat) x2 (64 * (m 4).toNat)).toNat % 64) (sWay m x1.toNat ((sel (sCfP m x1.toNat) x2 (64 * (m 4).toNat)).toNat / 64) ((sel (sCfP m x1.toNat) x2 (64 * (m 4).toNat)).toNat % 64)) : Nat) else sShort m x1.toNat ((sel (sCfP m x1.toNat) x2 (64 * (m 4).toNat)).toNat / 64) ((sel (sCfP m x1.toNat) x2 (64 * (m 4).toNat)).toNat % 64))))
theorem sel_is {P : Nat → Bool} {x : Int} {n : Nat} (h : sel P x n ≠ -1) : ∃ i, i < n ∧ P i = true ∧ (cnt P i : Int) = x ∧ sel P x n = i := by
  by_cases q : 0 ≤ x ∧ x < (cnt P n : Int)
  · exact sel_ex q.1 q.2
  · exact absurd (sel_no (by omega)) h
theorem c97 {w : PW} {Q : PO → PW → Prop} {m : Row} {x1 x2 x3 : Int} (hs : Sh w) (hB : BR w 1 m) (hx1 : bd x1) (hx2 : bd x2) (hx3 : bd x3) (h : Q (sp97 m x1 x2 x3) w) : pC 97 [.ref 0, iv x1, iv x2, iv x3] w Q := by
  have h0 := hB.ok.s
  have h1 := hB.ok.u
  have h4 := hB.ok.t
  refine e97 hs hx1 hx2 hx3 ?_
  rw [hB.u]
  refine ⟨⟨by omega, by omega⟩, fun q1 => ⟨fun q2 => ?_, sp_f (sp_t h q1)⟩, sp_f h⟩
  have hr := sp_t (sp_t h q1) q2
  obtain ⟨u, rfl⟩ := nat_of q1.1
  rw [Int.toNat_natCast] at hr
  have hsb := sel_bd (P := sCfP m u) (x := x2) (n := 64 * (m 4).toNat)
  refine c95 hs hB q1.2 hx2 (kI_iv ⟨by omega, by omega⟩ ⟨hs, fun q3 => ?_, fun q3 => by rw [if_pos q3] at hr; exact hr⟩)
  rw [if_neg q3] at hr
  obtain ⟨j, j1, j2, j3, j4⟩ := sel_is q3
  rw [j4] at hr ⊢
  have hS : ((j % 64 : Nat) : Int) < m 0 := by
    unfold sCfP at j2
    rw [Bool.and_eq_true, decide_eq_true_eq] at j2
    exact j2.1
  have hT : ((j / 64 : Nat) : Int) < m 4 := by omega
  have e1 : (j : Int).tdiv 64 = ((j / 64 : Nat) : Int) := by rw [Int.tdiv_eq_ediv_of_nonneg (by omega)]; omega
  have e2 : (j : Int).tmod 64 = ((j % 64 : Nat) : Int) := by rw [Int.tmod_eq_emod_of_nonneg (by omega)]; omega
  rw [Int.toNat_natCast] at hr
  rw [e1, e2]
  have hsh := sShort_bd hB.ok (u := u) (s := j % 64) hT
  have hwy := sWay_bd hB.ok u (j / 64) (j % 64)
  have hwn := wN_lt (S := (m 0).toNat) (s := j % 64) (i := sWay m u (j / 64) (j % 64)) (by omega) (by omega)
  refine ⟨fun q => c91 hs hB q1.2 hT hS (kI_iv ⟨by omega, by omega⟩ ⟨hs, ?_⟩), fun q => ?_, fun q => ?_, fun q => c96 hs hB q1.2 hT hS (kI_iv (bdk (by omega)) ⟨hs, ?_⟩)⟩
  · rw [if_neg (by omega), if_neg (by omega), if_neg (by omega)] at hr
    exact hr
  · rw [if_pos q] at hr
    exact hr
  · rw [if_neg (by omega), if_pos q] at hr
    exact hr
  · rw [if_neg (by omega), if_neg (by omega), if_pos q] at hr
    exact hr
def sCoA (m : Row) (j : Nat) (x2 : Int) : Int := if x2 = 0 then ((j / 4096 % (m 1).toNat : Nat) : Int) else if x2 = 1 then ((j / 4096 / (m 1).toNat : Nat) : Int) else if x2 = 2 then ((j / 64 % 64 : Nat) : Int) else if x2 = 3 then (((j / 4096 + 1) % (m 1).toNat : Nat) : Int) else if x2 = 4 then (((j / 4096 + 1) / (m 1).toNat : Nat) : Int) else ((j % 64 : Nat) : Int)
def sp104 (m : Row) (x1 x2 : Int) : PO := spR 0 5 x2 (rI (if sel (sCoP m) x1 (4096 * 36) = -1 then -1 else sCoA m (sel (sCoP m) x1 (4096 * 36)).toNat x2))
theorem c104 {w : PW} {Q : PO → PW → Prop} {m : Row} {x1 x2 : Int} (hs : Sh w) (hB : BR w 1 m) (hx1 : bd x1) (hx2 : bd x2) (h : Q (sp104 m x1 x2) w) : pC 104 [.ref 0, iv x1, iv x2] w Q := by
  have h1 := hB.ok.u
  refine e104 hs hx1 hx2 ⟨fun q2 => ?_, sp_f h⟩
  have hr := sp_t h q2
  have hsb := sel_bd (P := sCoP m) (x := x1) (n := 4096 * 36)
  refine c101 hs hB hx1 (kI_iv ⟨by omega, by omega⟩ ⟨hs, fun q3 => ?_, fun q3 => by rw [if_pos q3] at hr; exact hr⟩)
  rw [if_neg q3] at hr
  obtain ⟨j, j1, -, -, j4⟩ := sel_is q3
  rw [j4, Int.toNat_natCast] at hr
  rw [j4]
  have e1 : (j : Int).tdiv 4096 = ((j / 4096 : Nat) : Int) := by rw [Int.tdiv_eq_ediv_of_nonneg (by omega)]; omega
  have e2 : (j : Int).tmod 64 = ((j % 64 : Nat) : Int) := by rw [Int.tmod_eq_emod_of_nonneg (by omega)]; omega
  have e3 : (j : Int).tdiv 64 = ((j / 64 : Nat) : Int) := by rw [Int.tdiv_eq_ediv_of_nonneg (by omega)]; omega
  have e4 : ((j / 64 : Nat) : Int).tmod 64 = ((j / 64 % 64 : Nat) : Int) := by rw [Int.tmod_eq_emod_of_nonneg (by omega)]; omega
  have hU : m 1 = (((m 1).toNat : Nat) : Int) := by omega
  have e5 : ∀ z : Nat, ((z : Int)).tmod (m 1) = ((z % (m 1).toNat : Nat) : Int) := fun z => by rw [Int.tmod_eq_emod_of_nonneg (by omega), Int.natCast_emod, ← hU]
  have e6 : ∀ z : Nat, ((z : Int)).tdiv (m 1) = ((z / (m 1).toNat : Nat) : Int) := fun z => by rw [Int.tdiv_eq_ediv_of_nonneg (by omega), Int.natCast_ediv, ← hU]
  have a1 : ((j / 4096 : Nat) : Int) + 1 = ((j / 4096 + 1 : Nat) : Int) := by omega
  have bj : ∀ z : Nat, z ≤ 200000 → bd (z : Int) := fun z hz => bdk (by omega)
  unfold sCoA at hr
  refine ⟨fun q4 => v104_33 hs hx1 hx2 (bj _ (by omega)) rfl rfl bd0 ?_, fun q4 => v104_33 hs hx1 hx2 (bj _ (by omega)) rfl rfl (by decide) ?_⟩
  · rw [hB.u, e1, e2, e3, e4, a1, e5, e6]
    refine ⟨fun _ => ⟨fun _ => ⟨⟨by omega, by omega⟩, fun q => ⟨bj _ (by omega), h1.1, ?_⟩, fun q => ⟨bj _ (by omega), h1.1, ?_⟩, fun q => ⟨fun _ => ?_, fun z => absurd rfl z⟩⟩, fun z => absurd rfl z⟩, fun z => absurd rfl z⟩
    · rw [if_neg (by omega), if_neg (by omega), if_neg (by omega), if_pos (by omega)] at hr
      exact hr
    · rw [if_neg (by omega), if_neg (by omega), if_neg (by omega), if_neg (by omega), if_pos (by omega)] at hr
      exact hr
    · rw [if_neg (by omega), if_neg (by omega), if_neg (by omega), if_neg (by omega), if_neg (by omega)] at hr
      exact hr
  · rw [hB.u, e1, e2, e3, e4, Int.add_zero, e5, e6]
    refine ⟨fun z => absurd z (by decide), fun _ => ⟨fun z => absurd z (by decide), fun _ => ⟨fun q => ⟨bj _ (by omega), h1.1, ?_⟩, fun q => ⟨bj _ (by omega), h1.1, ?_⟩, fun q => ⟨fun z => absurd z (by decide), fun _ => ⟨bj _ (by omega), ?_⟩⟩⟩⟩⟩
    · rw [if_pos q] at hr
      exact hr
    · rw [if_neg (by omega), if_pos q] at hr
      exact hr
    · rw [if_neg (by omega), if_neg (by omega), if_pos (by omega)] at hr
      exact hr
/-! 65: PinBarrel.size(I)I -/
theorem b65 : mB 65 = cX8_size := rfl
theorem r65 : mR 65 = (some .int) := rfl
theorem d65_0 : decode cX8_size 0 = .ok (.iload_n 1, 1) := by decide +kernel
theorem d65_1 : decode cX8_size 1 = .ok (.tableswitch 201 0 13 #[71, 79, 87, 95, 103, 111, 122, 130, 141, 152, 163, 174, 185, 193], 71) := by decide +kernel
theorem d65_72 : decode cX8_size 72 = .ok (.aload_n 0, 1) := by decide +kernel
theorem d65_73 : decode cX8_size 73 = .ok (.getfield 12, 3) := by decide +kernel
theorem d65_76 : decode cX8_size 76 = .ok (.getfield 96, 3) := by decide +kernel
theorem d65_79 : decode cX8_size 79 = .ok (.ireturn, 1) := by decide +kernel
theorem d65_80 : decode cX8_size 80 = .ok (.aload_n 0, 1) := by decide +kernel
theorem d65_81 : decode cX8_size 81 = .ok (.getfield 12, 3) := by decide +kernel
theorem d65_84 : decode cX8_size 84 = .ok (.getfield 99, 3) := by decide +kernel
theorem d65_87 : decode cX8_size 87 = .ok (.ireturn, 1) := by decide +kernel
theorem d65_88 : decode cX8_size 88 = .ok (.aload_n 0, 1) := by decide +kernel
theorem d65_89 : decode cX8_size 89 = .ok (.getfield 12, 3) := by decide +kernel
theorem d65_92 : decode cX8_size 92 = .ok (.getfield 102, 3) := by decide +kernel
theorem d65_95 : decode cX8_size 95 = .ok (.ireturn, 1) := by decide +kernel
theorem d65_96 : decode cX8_size 96 = .ok (.aload_n 0, 1) := by decide +kernel
theorem d65_97 : decode cX8_size 97 = .ok (.getfield 12, 3) := by decide +kernel
theorem d65_100 : decode cX8_size 100 = .ok (.getfield 105, 3) := by decide +kernel
theorem d65_103 : decode cX8_size 103 = .ok (.ireturn, 1) := by decide +kernel
theorem d65_104 : decode cX8_size 104 = .ok (.aload_n 0, 1) := by decide +kernel
theorem d65_105 : decode cX8_size 105 = .ok (.getfield 12, 3) := by decide +kernel
theorem d65_108 : decode cX8_size 108 = .ok (.getfield 108, 3) := by decide +kernel
theorem d65_111 : decode cX8_size 111 = .ok (.ireturn, 1) := by decide +kernel
theorem d65_112 : decode cX8_size 112 = .ok (.aload_n 0, 1) := by decide +kernel
theorem d65_113 : decode cX8_size 113 = .ok (.getfield 12, 3) := by decide +kernel
theorem d65_116 : decode cX8_size 116 = .ok (.getfield 87, 3) := by decide +kernel
theorem d65_119 : decode cX8_size 119 = .ok (.getfield 91, 3) := by decide +kernel
theorem d65_122 : decode cX8_size 122 = .ok (.ireturn, 1) := by decide +kernel
theorem d65_123 : decode cX8_size 123 = .ok (.aload_n 0, 1) := by decide +kernel
theorem d65_124 : decode cX8_size 124 = .ok (.getfield 12, 3) := by decide +kernel
theorem d65_127 : decode cX8_size 127 = .ok (.invokevirtual 111, 3) := by decide +kernel
theorem d65_130 : decode cX8_size 130 = .ok (.ireturn, 1) := by decide +kernel
theorem d65_131 : decode cX8_size 131 = .ok (.aload_n 0, 1) := by decide +kernel
theorem d65_132 : decode cX8_size 132 = .ok (.getfield 12, 3) := by decide +kernel
theorem d65_135 : decode cX8_size 135 = .ok (.getfield 115, 3) := by decide +kernel
theorem d65_138 : decode cX8_size 138 = .ok (.getfield 119, 3) := by decide +kernel
theorem d65_141 : decode cX8_size 141 = .ok (.ireturn, 1) := by decide +kernel
theorem d65_142 : decode cX8_size 142 = .ok (.aload_n 0, 1) := by decide +kernel
theorem d65_143 : decode cX8_size 143 = .ok (.getfield 12, 3) := by decide +kernel
theorem d65_146 : decode cX8_size 146 = .ok (.getfield 115, 3) := by decide +kernel
theorem d65_149 : decode cX8_size 149 = .ok (.getfield 124, 3) := by decide +kernel
theorem d65_152 : decode cX8_size 152 = .ok (.ireturn, 1) := by decide +kernel
theorem d65_153 : decode cX8_size 153 = .ok (.aload_n 0, 1) := by decide +kernel
theorem d65_154 : decode cX8_size 154 = .ok (.getfield 12, 3) := by decide +kernel
theorem d65_157 : decode cX8_size 157 = .ok (.getfield 115, 3) := by decide +kernel
theorem d65_160 : decode cX8_size 160 = .ok (.getfield 127, 3) := by decide +kernel
theorem d65_163 : decode cX8_size 163 = .ok (.ireturn, 1) := by decide +kernel
theorem d65_164 : decode cX8_size 164 = .ok (.aload_n 0, 1) := by decide +kernel
theorem d65_165 : decode cX8_size 165 = .ok (.getfield 12, 3) := by decide +kernel
theorem d65_168 : decode cX8_size 168 = .ok (.getfield 115, 3) := by decide +kernel
theorem d65_171 : decode cX8_size 171 = .ok (.getfield 130, 3) := by decide +kernel
theorem d65_174 : decode cX8_size 174 = .ok (.ireturn, 1) := by decide +kernel
theorem d65_175 : decode cX8_size 175 = .ok (.aload_n 0, 1) := by decide +kernel
theorem d65_176 : decode cX8_size 176 = .ok (.getfield 12, 3) := by decide +kernel
theorem d65_179 : decode cX8_size 179 = .ok (.getfield 115, 3) := by decide +kernel
theorem d65_182 : decode cX8_size 182 = .ok (.getfield 133, 3) := by decide +kernel
theorem d65_185 : decode cX8_size 185 = .ok (.ireturn, 1) := by decide +kernel
theorem d65_186 : decode cX8_size 186 = .ok (.aload_n 0, 1) := by decide +kernel
theorem d65_187 : decode cX8_size 187 = .ok (.getfield 12, 3) := by decide +kernel
theorem d65_190 : decode cX8_size 190 = .ok (.invokevirtual 136, 3) := by decide +kernel
theorem d65_193 : decode cX8_size 193 = .ok (.ireturn, 1) := by decide +kernel
theorem d65_194 : decode cX8_size 194 = .ok (.aload_n 0, 1) := by decide +kernel
theorem d65_195 : decode cX8_size 195 = .ok (.getfield 22, 3) := by decide +kernel
theorem d65_198 : decode cX8_size 198 = .ok (.getfield 139, 3) := by decide +kernel
theorem d65_201 : decode cX8_size 201 = .ok (.ireturn, 1) := by decide +kernel
theorem d65_202 : decode cX8_size 202 = .ok (.new 140, 3) := by decide +kernel
theorem v65_0 {w : PW} {Q : PO → PW → Prop} {x1 : Int} (hs : Sh w) (hx1 : bd x1) (h : (x1 < 0 ∨ 13 < x1 → Q (.inr 1) w) ∧ (x1 = 0 → Q (.inl (some (iv (gI w 1 0)))) w) ∧ (x1 = 1 → Q (.inl (some (iv (gI w 1 1)))) w) ∧ (x1 = 2 → Q (.inl (some (iv (gI w 1 2)))) w) ∧ (x1 = 3 → Q (.inl (some (iv (gI w 1 3)))) w) ∧ (x1 = 4 → Q (.inl (some (iv (gI w 1 4)))) w) ∧ (x1 = 5 → Q (.inl (some (iv (gI w (1 + 4) 0)))) w) ∧ (x1 = 6 → pC 59 [.ref 1] w (kI fun u3 w2 => Sh w2 ∧ Q (.inl (some (iv u3))) w2)) ∧ (x1 = 7 → Q (.inl (some (iv (gI w (1 + 8) 0)))) w) ∧ (x1 = 8 → Q (.inl (some (iv (gI w (1 + 8) 1)))) w) ∧ (x1 = 9 → Q (.inl (some (iv (gI w (1 + 8) 2)))) w) ∧ (x1 = 10 → Q (.inl (some (iv (gI w (1 + 8) 3)))) w) ∧ (x1 = 11 → Q (.inl (some (iv (gI w (1 + 8) 4)))) w) ∧ (x1 = 12 → pC 64 [.ref 1] w (kI fun u5 w4 => Sh w4 ∧ Q (.inl (some (iv u5))) w4)) ∧ (x1 = 13 → Q (.inl (some (iv (gI w 27 2)))) w)) : pX 65 0 [some (.ref 0), some (iv x1)] [] w Q :=
  w_f b65 d65_0 rfl rfl rfl <| Decidable.byCases (p := x1 < 0 ∨ 13 < x1) (fun c1 => w_tsO b65 d65_1 rfl (by decide +kernel) hx1 c1 <| w_th b65 d65_202 hs.1 rfl rfl rfl (h.1 c1)) (fun cz => Decidable.byCases (p := x1 = 0) (fun c1 => w_tsI (off := 71) b65 d65_1 rfl (by decide +kernel) hx1 cz (by rw [c1]; rfl) <| w_f b65 d65_72 rfl rfl rfl <| w_gr b65 d65_73 rfl rfl hs (tlt 0 rfl) tbC_0 rfl (bxr0 (bxc 1 rfl)) <| w_gi b65 d65_76 rfl rfl hs (bx00 (bxc 1 rfl)) (tb0 (bxc 1 rfl)) rfl <| w_ri b65 d65_79 r65 (h.2.1 c1)) (fun cn0 => Decidable.byCases (p := x1 = 1) (fun c1 => w_tsI (off := 79) b65 d65_1 rfl (by decide +kernel) hx1 cz (by rw [c1]; rfl) <| w_f b65 d65_80 rfl rfl rfl <| w_gr b65 d65_81 rfl rfl hs (tlt 0 rfl) tbC_0 rfl (bxr0 (bxc 1 rfl)) <| w_gi b65 d65_84 rfl rfl hs (bx00 (bxc 1 rfl)) (tb0 (bxc 1 rfl)) rfl <| w_ri b65 d65_87 r65 (h.2.2.1 c1)) (fun cn1 => Decidable.byCases (p := x1 = 2) (fun c1 => w_tsI (off := 87) b65 d65_1 rfl (by decide +kernel) hx1 cz (by rw [c1]; rfl) <| w_f b65 d65_88 rfl rfl rfl <| w_gr b65 d65_89 rfl rfl hs (tlt 0 rfl) tbC_0 rfl (bxr0 (bxc 1 rfl)) <| w_gi b65 d65_92 rfl rfl hs (bx00 (bxc 1 rfl)) (tb0 (bxc 1 rfl)) rfl <| w_ri b65 d65_95 r65 (h.2.2.2.1 c1)) (fun cn2 => Decidable.byCases (p := x1 = 3) (fun c1 => w_tsI (off := 95) b65 d65_1 rfl (by decide +kernel) hx1 cz (by rw [c1]; rfl) <| w_f b65 d65_96 rfl rfl rfl <| w_gr b65 d65_97 rfl rfl hs (tlt 0 rfl) tbC_0 rfl (bxr0 (bxc 1 rfl)) <| w_gi b65 d65_100 rfl rfl hs (bx00 (bxc 1 rfl)) (tb0 (bxc 1 rfl)) rfl <| w_ri b65 d65_103 r65 (h.2.2.2.2.1 c1)) (fun cn3 => Decidable.byCases (p := x1 = 4) (fun c1 => w_tsI (off := 103) b65 d65_1 rfl (by decide +kernel) hx1 cz (by rw [c1]; rfl) <| w_f b65 d65_104 rfl rfl rfl <| w_gr b65 d65_105 rfl rfl hs (tlt 0 rfl) tbC_0 rfl (bxr0 (bxc 1 rfl)) <| w_gi b65 d65_108 rfl rfl hs (bx00 (bxc 1 rfl)) (tb0 (bxc 1 rfl)) rfl <| w_ri b65 d65_111 r65 (h.2.2.2.2.2.1 c1)) (fun cn4 => Decidable.byCases (p := x1 = 5) (fun c1 => w_tsI (off := 111) b65 d65_1 rfl (by decide +kernel) hx1 cz (by rw [c1]; rfl) <| w_f b65 d65_112 rfl rfl rfl <| w_gr b65 d65_113 rfl rfl hs (tlt 0 rfl) tbC_0 rfl (bxr0 (bxc 1 rfl)) <| w_gr b65 d65_116 rfl rfl hs (bx00 (bxc 1 rfl)) (tb0 (bxc 1 rfl)) rfl (bxr (bxc 1 rfl) 4 rfl) <| w_gi b65 d65_119 rfl rfl hs (bxk (bxc 1 rfl) 4 rfl) (tb4 (bxc 1 rfl)) rfl <| w_ri b65 d65_122 r65 (h.2.2.2.2.2.2.1 c1)) (fun cn5 => Decidable.byCases (p := x1 = 6) (fun c1 => w_tsI (off := 122) b65 d65_1 rfl (by decide +kernel) hx1 cz (by rw [c1]; rfl) <| w_f b65 d65_123 rfl rfl rfl <| w_gr b65 d65_124 rfl rfl hs (tlt 0 rfl) tbC_0 rfl (bxr0 (bxc 1 rfl)) <| w_c b65 d65_127 rfl (pcl_v (n := 0) rfl rfl rfl (by decide +kernel) (sh_isOb hs (bx00 (bxc 1 rfl)) (tb0 (bxc 1 rfl))) rfl rfl) rfl _ (hK_I fun u3 w2 hbu3 hkw2 => w_ri b65 d65_130 r65 hkw2.2) (h.2.2.2.2.2.2.2.1 c1)) (fun cn6 => Decidable.byCases (p := x1 = 7) (fun c1 => w_tsI (off := 130) b65 d65_1 rfl (by decide +kernel) hx1 cz (by rw [c1]; rfl) <| w_f b65 d65_131 rfl rfl rfl <| w_gr b65 d65_132 rfl rfl hs (tlt 0 rfl) tbC_0 rfl (bxr0 (bxc 1 rfl)) <| w_gr b65 d65_135 rfl rfl hs (bx00 (bxc 1 rfl)) (tb0 (bxc 1 rfl)) rfl (bxr (bxc 1 rfl) 8 rfl) <| w_gi b65 d65_138 rfl rfl hs (bxk (bxc 1 rfl) 8 rfl) (tb8 (bxc 1 rfl)) rfl <| w_ri b65 d65_141 r65 (h.2.2.2.2.2.2.2.2.1 c1)) (fun cn7 => Decidable.byCases (p := x1 = 8) (fun c1 => w_tsI (off := 141) b65 d65_1 rfl (by decide +kernel) hx1 cz (by rw [c1]; rfl) <| w_f b65 d65_142 rfl rfl rfl <| w_gr b65 d65_143 rfl rfl hs (tlt 0 rfl) tbC_0 rfl (bxr0 (bxc 1 rfl)) <| w_gr b65 d65_146 rfl rfl hs (bx00 (bxc 1 rfl)) (tb0 (bxc 1 rfl)) rfl (bxr (bxc 1 rfl) 8 rfl) <| w_gi b65 d65_149 rfl rfl hs (bxk (bxc 1 rfl) 8 rfl) (tb8 (bxc 1 rfl)) rfl <| w_ri b65 d65_152 r65 (h.2.2.2.2.2.2.2.2.2.1 c1)) (fun cn8 => Decidable.byCases (p := x1 = 9) (fun c1 => w_tsI (off := 152) b65 d65_1 rfl (by decide +kernel) hx1 cz (by rw [c1]; rfl) <| w_f b65 d65_153 rfl rfl rfl <| w_gr b65 d65_154 rfl rfl hs (tlt 0 rfl) tbC_0 rfl (bxr0 (bxc 1 rfl)) <| w_gr b65 d65_157 rfl rfl hs (bx00 (bxc 1 rfl)) (tb0 (bxc 1 rfl)) rfl (bxr (bxc 1 rfl) 8 rfl) <| w_gi b65 d65_160 rfl rfl hs (bxk (bxc 1 rfl) 8 rfl) (tb8 (bxc 1 rfl)) rfl <| w_ri b65 d65_163 r65 (h.2.2.2.2.2.2.2.2.2.2.1 c1)) (fun cn9 => Decidable.byCases (p := x1 = 10) (fun c1 => w_tsI (off := 163) b65 d65_1 rfl (by decide +kernel) hx1 cz (by rw [c1]; rfl) <| w_f b65 d65_164 rfl rfl rfl <| w_gr b65 d65_165 rfl rfl hs (tlt 0 rfl) tbC_0 rfl (bxr0 (bxc 1 rfl)) <| w_gr b65 d65_168 rfl rfl hs (bx00 (bxc 1 rfl)) (tb0 (bxc 1 rfl)) rfl (bxr (bxc 1 rfl) 8 rfl) <| w_gi b65 d65_171 rfl rfl hs (bxk (bxc 1 rfl) 8 rfl) (tb8 (bxc 1 rfl)) rfl <| w_ri b65 d65_174 r65 (h.2.2.2.2.2.2.2.2.2.2.2.1 c1)) (fun cn10 => Decidable.byCases (p := x1 = 11) (fun c1 => w_tsI (off := 174) b65 d65_1 rfl (by decide +kernel) hx1 cz (by rw [c1]; rfl) <| w_f b65 d65_175 rfl rfl rfl <| w_gr b65 d65_176 rfl rfl hs (tlt 0 rfl) tbC_0 rfl (bxr0 (bxc 1 rfl)) <| w_gr b65 d65_179 rfl rfl hs (bx00 (bxc 1 rfl)) (tb0 (bxc 1 rfl)) rfl (bxr (bxc 1 rfl) 8 rfl) <| w_gi b65 d65_182 rfl rfl hs (bxk (bxc 1 rfl) 8 rfl) (tb8 (bxc 1 rfl)) rfl <| w_ri b65 d65_185 r65 (h.2.2.2.2.2.2.2.2.2.2.2.2.1 c1)) (fun cn11 => Decidable.byCases (p := x1 = 12) (fun c1 => w_tsI (off := 185) b65 d65_1 rfl (by decide +kernel) hx1 cz (by rw [c1]; rfl) <| w_f b65 d65_186 rfl rfl rfl <| w_gr b65 d65_187 rfl rfl hs (tlt 0 rfl) tbC_0 rfl (bxr0 (bxc 1 rfl)) <| w_c b65 d65_190 rfl (pcl_v (n := 0) rfl rfl rfl (by decide +kernel) (sh_isOb hs (bx00 (bxc 1 rfl)) (tb0 (bxc 1 rfl))) rfl rfl) rfl _ (hK_I fun u5 w4 hbu5 hkw4 => w_ri b65 d65_193 r65 hkw4.2) (h.2.2.2.2.2.2.2.2.2.2.2.2.2.1 c1)) (fun cn12 => have c1 : x1 = 13 := by omega
  w_tsI (off := 193) b65 d65_1 rfl (by decide +kernel) hx1 cz (by rw [c1]; rfl) <| w_f b65 d65_194 rfl rfl rfl <| w_gr b65 d65_195 rfl rfl hs (tlt 0 rfl) tbC_0 rfl (by decide) <| w_gi b65 d65_198 rfl rfl hs (tlt 27 rfl) tbC_27 rfl <| w_ri b65 d65_201 r65 (h.2.2.2.2.2.2.2.2.2.2.2.2.2.2 c1)))))))))))))))
theorem e65 {w : PW} {Q : PO → PW → Prop} {x1 : Int} (hs : Sh w) (hx1 : bd x1) (h : (x1 < 0 ∨ 13 < x1 → Q (.inr 1) w) ∧ (x1 = 0 → Q (.inl (some (iv (gI w 1 0)))) w) ∧ (x1 = 1 → Q (.inl (some (iv (gI w 1 1)))) w) ∧ (x1 = 2 → Q (.inl (some (iv (gI w 1 2)))) w) ∧ (x1 = 3 → Q (.inl (some (iv (gI w 1 3)))) w) ∧ (x1 = 4 → Q (.inl (some (iv (gI w 1 4)))) w) ∧ (x1 = 5 → Q (.inl (some (iv (gI w (1 + 4) 0)))) w) ∧ (x1 = 6 → pC 59 [.ref 1] w (kI fun u3 w2 => Sh w2 ∧ Q (.inl (some (iv u3))) w2)) ∧ (x1 = 7 → Q (.inl (some (iv (gI w (1 + 8) 0)))) w) ∧ (x1 = 8 → Q (.inl (some (iv (gI w (1 + 8) 1)))) w) ∧ (x1 = 9 → Q (.inl (some (iv (gI w (1 + 8) 2)))) w) ∧ (x1 = 10 → Q (.inl (some (iv (gI w (1 + 8) 3)))) w) ∧ (x1 = 11 → Q (.inl (some (iv (gI w (1 + 8) 4)))) w) ∧ (x1 = 12 → pC 64 [.ref 1] w (kI fun u5 w4 => Sh w4 ∧ Q (.inl (some (iv u5))) w4)) ∧ (x1 = 13 → Q (.inl (some (iv (gI w 27 2)))) w)) : pC 65 [.ref 0, iv x1] w Q :=
  (pC_in (Nat.le_of_ble_eq_true rfl) rfl Q).mpr (v65_0 hs hx1 h)
/-! 69: PinBarrel.tooth(II)I -/
theorem b69 : mB 69 = cX8_tooth := rfl
theorem r69 : mR 69 = (some .int) := rfl
theorem d69_0 : decode cX8_tooth 0 = .ok (.aload_n 0, 1) := by decide +kernel
theorem d69_1 : decode cX8_tooth 1 = .ok (.iload_n 1, 1) := by decide +kernel
theorem d69_2 : decode cX8_tooth 2 = .ok (.invokevirtual 147, 3) := by decide +kernel
theorem d69_5 : decode cX8_tooth 5 = .ok (.iload_n 2, 1) := by decide +kernel
theorem d69_6 : decode cX8_tooth 6 = .ok (.tableswitch 143 0 7 #[46, 56, 66, 75, 84, 97, 110, 123], 46) := by decide +kernel
theorem d69_52 : decode cX8_tooth 52 = .ok (.aload_n 0, 1) := by decide +kernel
theorem d69_53 : decode cX8_tooth 53 = .ok (.getfield 12, 3) := by decide +kernel
theorem d69_56 : decode cX8_tooth 56 = .ok (.getfield 151, 3) := by decide +kernel
theorem d69_59 : decode cX8_tooth 59 = .ok (.iload_n 1, 1) := by decide +kernel
theorem d69_60 : decode cX8_tooth 60 = .ok (.iaload, 1) := by decide +kernel
theorem d69_61 : decode cX8_tooth 61 = .ok (.ireturn, 1) := by decide +kernel
theorem d69_62 : decode cX8_tooth 62 = .ok (.aload_n 0, 1) := by decide +kernel
theorem d69_63 : decode cX8_tooth 63 = .ok (.getfield 12, 3) := by decide +kernel
theorem d69_66 : decode cX8_tooth 66 = .ok (.getfield 155, 3) := by decide +kernel
theorem d69_69 : decode cX8_tooth 69 = .ok (.iload_n 1, 1) := by decide +kernel
theorem d69_70 : decode cX8_tooth 70 = .ok (.iaload, 1) := by decide +kernel
theorem d69_71 : decode cX8_tooth 71 = .ok (.ireturn, 1) := by decide +kernel
theorem d69_72 : decode cX8_tooth 72 = .ok (.aload_n 0, 1) := by decide +kernel
theorem d69_73 : decode cX8_tooth 73 = .ok (.getfield 12, 3) := by decide +kernel
theorem d69_76 : decode cX8_tooth 76 = .ok (.iload_n 1, 1) := by decide +kernel
theorem d69_77 : decode cX8_tooth 77 = .ok (.invokevirtual 158, 3) := by decide +kernel
theorem d69_80 : decode cX8_tooth 80 = .ok (.ireturn, 1) := by decide +kernel
theorem d69_81 : decode cX8_tooth 81 = .ok (.aload_n 0, 1) := by decide +kernel
theorem d69_82 : decode cX8_tooth 82 = .ok (.getfield 12, 3) := by decide +kernel
theorem d69_85 : decode cX8_tooth 85 = .ok (.iload_n 1, 1) := by decide +kernel
theorem d69_86 : decode cX8_tooth 86 = .ok (.invokevirtual 162, 3) := by decide +kernel
theorem d69_89 : decode cX8_tooth 89 = .ok (.ireturn, 1) := by decide +kernel
theorem d69_90 : decode cX8_tooth 90 = .ok (.aload_n 0, 1) := by decide +kernel
theorem d69_91 : decode cX8_tooth 91 = .ok (.getfield 12, 3) := by decide +kernel
theorem d69_94 : decode cX8_tooth 94 = .ok (.getfield 115, 3) := by decide +kernel
theorem d69_97 : decode cX8_tooth 97 = .ok (.getfield 165, 3) := by decide +kernel
theorem d69_100 : decode cX8_tooth 100 = .ok (.iload_n 1, 1) := by decide +kernel
theorem d69_101 : decode cX8_tooth 101 = .ok (.iaload, 1) := by decide +kernel
theorem d69_102 : decode cX8_tooth 102 = .ok (.ireturn, 1) := by decide +kernel
theorem d69_103 : decode cX8_tooth 103 = .ok (.aload_n 0, 1) := by decide +kernel
theorem d69_104 : decode cX8_tooth 104 = .ok (.getfield 12, 3) := by decide +kernel
theorem d69_107 : decode cX8_tooth 107 = .ok (.getfield 115, 3) := by decide +kernel
theorem d69_110 : decode cX8_tooth 110 = .ok (.getfield 168, 3) := by decide +kernel
theorem d69_113 : decode cX8_tooth 113 = .ok (.iload_n 1, 1) := by decide +kernel
theorem d69_114 : decode cX8_tooth 114 = .ok (.iaload, 1) := by decide +kernel
theorem d69_115 : decode cX8_tooth 115 = .ok (.ireturn, 1) := by decide +kernel
theorem d69_116 : decode cX8_tooth 116 = .ok (.aload_n 0, 1) := by decide +kernel
theorem d69_117 : decode cX8_tooth 117 = .ok (.getfield 12, 3) := by decide +kernel
theorem d69_120 : decode cX8_tooth 120 = .ok (.getfield 115, 3) := by decide +kernel
theorem d69_123 : decode cX8_tooth 123 = .ok (.getfield 171, 3) := by decide +kernel
theorem d69_126 : decode cX8_tooth 126 = .ok (.iload_n 1, 1) := by decide +kernel
theorem d69_127 : decode cX8_tooth 127 = .ok (.iaload, 1) := by decide +kernel
theorem d69_128 : decode cX8_tooth 128 = .ok (.ireturn, 1) := by decide +kernel
theorem d69_129 : decode cX8_tooth 129 = .ok (.aload_n 0, 1) := by decide +kernel
theorem d69_130 : decode cX8_tooth 130 = .ok (.getfield 12, 3) := by decide +kernel
theorem d69_133 : decode cX8_tooth 133 = .ok (.getfield 115, 3) := by decide +kernel
theorem d69_136 : decode cX8_tooth 136 = .ok (.iload_n 1, 1) := by decide +kernel
theorem d69_137 : decode cX8_tooth 137 = .ok (.aload_n 0, 1) := by decide +kernel
theorem d69_138 : decode cX8_tooth 138 = .ok (.getfield 12, 3) := by decide +kernel
theorem d69_141 : decode cX8_tooth 141 = .ok (.iload_n 1, 1) := by decide +kernel
theorem d69_142 : decode cX8_tooth 142 = .ok (.invokevirtual 158, 3) := by decide +kernel
theorem d69_145 : decode cX8_tooth 145 = .ok (.invokevirtual 174, 3) := by decide +kernel
theorem d69_148 : decode cX8_tooth 148 = .ok (.ireturn, 1) := by decide +kernel
theorem d69_149 : decode cX8_tooth 149 = .ok (.new 140, 3) := by decide +kernel
theorem v69_0 {w : PW} {Q : PO → PW → Prop} {x1 : Int} {x2 : Int} (hs : Sh w) (hx1 : bd x1) (hx2 : bd x2) (h : ((0 ≤ x1 ∧ x1 < gI w 1 4) → (x2 < 0 ∨ 7 < x2 → Q (.inr 1) w) ∧ (x2 = 0 → (0 ≤ x1 ∧ x1 < 12) ∧ Q (.inl (some (iv (gI w (1 + 1) x1.toNat)))) w) ∧ (x2 = 1 → (0 ≤ x1 ∧ x1 < 12) ∧ Q (.inl (some (iv (gI w (1 + 2) x1.toNat)))) w) ∧ (x2 = 2 → (0 ≤ x1 ∧ x1 < 12) ∧ Q (.inl (some (iv ((gI w (1 + 2) (x1).toNat) * (gI w 1 3))))) w) ∧ (x2 = 3 → pC 68 [.ref 1, iv x1] w (kI fun u4 w3 => Sh w3 ∧ Q (.inl (some (iv u4))) w3)) ∧ (x2 = 4 → (0 ≤ x1 ∧ x1 < 12) ∧ Q (.inl (some (iv (gI w (1 + 9) x1.toNat)))) w) ∧ (x2 = 5 → (0 ≤ x1 ∧ x1 < 12) ∧ Q (.inl (some (iv (gI w (1 + 10) x1.toNat)))) w) ∧ (x2 = 6 → (0 ≤ x1 ∧ x1 < 12) ∧ Q (.inl (some (iv (gI w (1 + 11) x1.toNat)))) w) ∧ (x2 = 7 → (0 ≤ x1 ∧ x1 < 12) ∧ pC 45 [.ref (1 + 8), iv x1, iv ((gI w (1 + 2) (x1).toNat) * (gI w 1 3))] w (kI fun u6 w5 => Sh w5 ∧ Q (.inl (some (iv u6))) w5))) ∧ (¬ (0 ≤ x1 ∧ x1 < gI w 1 4) → Q (.inr 2) w)) : pX 69 0 [some (.ref 0), some (iv x1), some (iv x2)] [] w Q :=
  w_f b69 d69_0 rfl rfl rfl <| w_f b69 d69_1 rfl rfl rfl <| w_cc b69 d69_2 rfl (pcl_v (n := 1) rfl rfl rfl (by decide +kernel) (sh_isOb hs (tlt 0 rfl) tbC_0) rfl rfl) rfl <| c67 hs hx1 (fun c1 => w_f b69 d69_5 rfl rfl rfl <| Decidable.byCases (p := x2 < 0 ∨ 7 < x2) (fun c2 => w_tsO b69 d69_6 rfl (by decide +kernel) hx2 c2 <| w_th b69 d69_149 hs.1 rfl rfl rfl ((h.1 c1).1 c2)) (fun cz => Decidable.byCases (p := x2 = 0) (fun c2 => w_tsI (off := 46) b69 d69_6 rfl (by decide +kernel) hx2 cz (by rw [c2]; rfl) <| w_f b69 d69_52 rfl rfl rfl <| w_gr b69 d69_53 rfl rfl hs (tlt 0 rfl) tbC_0 rfl (bxr0 (bxc 1 rfl)) <| w_gr b69 d69_56 rfl rfl hs (bx00 (bxc 1 rfl)) (tb0 (bxc 1 rfl)) rfl (bxr (bxc 1 rfl) 1 rfl) <| w_f b69 d69_59 rfl rfl rfl <| w_ial b69 d69_60 rfl hs (bxk (bxc 1 rfl) 1 rfl) (tb1 (bxc 1 rfl)) (bdix (n := 12) ((h.1 c1).2.1 c2).1 rfl) ((h.1 c1).2.1 c2).1 <| w_ri b69 d69_61 r69 ((h.1 c1).2.1 c2).2) (fun cn0 => Decidable.byCases (p := x2 = 1) (fun c2 => w_tsI (off := 56) b69 d69_6 rfl (by decide +kernel) hx2 cz (by rw [c2]; rfl) <| w_f b69 d69_62 rfl rfl rfl <| w_gr b69 d69_63 rfl rfl hs (tlt 0 rfl) tbC_0 rfl (bxr0 (bxc 1 rfl)) <| w_gr b69 d69_66 rfl rfl hs (bx00 (bxc 1 rfl)) (tb0 (bxc 1 rfl)) rfl (bxr (bxc 1 rfl) 2 rfl) <| w_f b69 d69_69 rfl rfl rfl <| w_ial b69 d69_70 rfl hs (bxk (bxc 1 rfl) 2 rfl) (tb2 (bxc 1 rfl)) (bdix (n := 12) ((h.1 c1).2.2.1 c2).1 rfl) ((h.1 c1).2.2.1 c2).1 <| w_ri b69 d69_71 r69 ((h.1 c1).2.2.1 c2).2) (fun cn1 => Decidable.byCases (p := x2 = 2) (fun c2 => w_tsI (off := 66) b69 d69_6 rfl (by decide +kernel) hx2 cz (by rw [c2]; rfl) <| w_f b69 d69_72 rfl rfl rfl <| w_gr b69 d69_73 rfl rfl hs (tlt 0 rfl) tbC_0 rfl (bxr0 (bxc 1 rfl)) <| w_f b69 d69_76 rfl rfl rfl <| w_cc b69 d69_77 rfl (pcl_v (n := 1) rfl rfl rfl (by decide +kernel) (sh_isOb hs (bx00 (bxc 1 rfl)) (tb0 (bxc 1 rfl))) rfl rfl) rfl <| c44 hs (bxc 1 rfl) hx1 ((h.1 c1).2.2.2.1 c2).1 <| w_ri b69 d69_80 r69 ((h.1 c1).2.2.2.1 c2).2) (fun cn2 => Decidable.byCases (p := x2 = 3) (fun c2 => w_tsI (off := 75) b69 d69_6 rfl (by decide +kernel) hx2 cz (by rw [c2]; rfl) <| w_f b69 d69_81 rfl rfl rfl <| w_gr b69 d69_82 rfl rfl hs (tlt 0 rfl) tbC_0 rfl (bxr0 (bxc 1 rfl)) <| w_f b69 d69_85 rfl rfl rfl <| w_c b69 d69_86 rfl (pcl_v (n := 1) rfl rfl rfl (by decide +kernel) (sh_isOb hs (bx00 (bxc 1 rfl)) (tb0 (bxc 1 rfl))) rfl rfl) rfl _ (hK_I fun u4 w3 hbu4 hkw3 => w_ri b69 d69_89 r69 hkw3.2) ((h.1 c1).2.2.2.2.1 c2)) (fun cn3 => Decidable.byCases (p := x2 = 4) (fun c2 => w_tsI (off := 84) b69 d69_6 rfl (by decide +kernel) hx2 cz (by rw [c2]; rfl) <| w_f b69 d69_90 rfl rfl rfl <| w_gr b69 d69_91 rfl rfl hs (tlt 0 rfl) tbC_0 rfl (bxr0 (bxc 1 rfl)) <| w_gr b69 d69_94 rfl rfl hs (bx00 (bxc 1 rfl)) (tb0 (bxc 1 rfl)) rfl (bxr (bxc 1 rfl) 8 rfl) <| w_gr b69 d69_97 rfl rfl hs (bxk (bxc 1 rfl) 8 rfl) (tb8 (bxc 1 rfl)) rfl (bxr (bxc 1 rfl) 9 rfl) <| w_f b69 d69_100 rfl rfl rfl <| w_ial b69 d69_101 rfl hs (bxk (bxc 1 rfl) 9 rfl) (tb9 (bxc 1 rfl)) (bdix (n := 12) ((h.1 c1).2.2.2.2.2.1 c2).1 rfl) ((h.1 c1).2.2.2.2.2.1 c2).1 <| w_ri b69 d69_102 r69 ((h.1 c1).2.2.2.2.2.1 c2).2) (fun cn4 => Decidable.byCases (p := x2 = 5) (fun c2 => w_tsI (off := 97) b69 d69_6 rfl (by decide +kernel) hx2 cz (by rw [c2]; rfl) <| w_f b69 d69_103 rfl rfl rfl <| w_gr b69 d69_104 rfl rfl hs (tlt 0 rfl) tbC_0 rfl (bxr0 (bxc 1 rfl)) <| w_gr b69 d69_107 rfl rfl hs (bx00 (bxc 1 rfl)) (tb0 (bxc 1 rfl)) rfl (bxr (bxc 1 rfl) 8 rfl) <| w_gr b69 d69_110 rfl rfl hs (bxk (bxc 1 rfl) 8 rfl) (tb8 (bxc 1 rfl)) rfl (bxr (bxc 1 rfl) 10 rfl) <| w_f b69 d69_113 rfl rfl rfl <| w_ial b69 d69_114 rfl hs (bxk (bxc 1 rfl) 10 rfl) (tb10 (bxc 1 rfl)) (bdix (n := 12) ((h.1 c1).2.2.2.2.2.2.1 c2).1 rfl) ((h.1 c1).2.2.2.2.2.2.1 c2).1 <| w_ri b69 d69_115 r69 ((h.1 c1).2.2.2.2.2.2.1 c2).2) (fun cn5 => Decidable.byCases (p := x2 = 6) (fun c2 => w_tsI (off := 110) b69 d69_6 rfl (by decide +kernel) hx2 cz (by rw [c2]; rfl) <| w_f b69 d69_116 rfl rfl rfl <| w_gr b69 d69_117 rfl rfl hs (tlt 0 rfl) tbC_0 rfl (bxr0 (bxc 1 rfl)) <| w_gr b69 d69_120 rfl rfl hs (bx00 (bxc 1 rfl)) (tb0 (bxc 1 rfl)) rfl (bxr (bxc 1 rfl) 8 rfl) <| w_gr b69 d69_123 rfl rfl hs (bxk (bxc 1 rfl) 8 rfl) (tb8 (bxc 1 rfl)) rfl (bxr (bxc 1 rfl) 11 rfl) <| w_f b69 d69_126 rfl rfl rfl <| w_ial b69 d69_127 rfl hs (bxk (bxc 1 rfl) 11 rfl) (tb11 (bxc 1 rfl)) (bdix (n := 12) ((h.1 c1).2.2.2.2.2.2.2.1 c2).1 rfl) ((h.1 c1).2.2.2.2.2.2.2.1 c2).1 <| w_ri b69 d69_128 r69 ((h.1 c1).2.2.2.2.2.2.2.1 c2).2) (fun cn6 => have c2 : x2 = 7 := by omega
  w_tsI (off := 123) b69 d69_6 rfl (by decide +kernel) hx2 cz (by rw [c2]; rfl) <| w_f b69 d69_129 rfl rfl rfl <| w_gr b69 d69_130 rfl rfl hs (tlt 0 rfl) tbC_0 rfl (bxr0 (bxc 1 rfl)) <| w_gr b69 d69_133 rfl rfl hs (bx00 (bxc 1 rfl)) (tb0 (bxc 1 rfl)) rfl (bxr (bxc 1 rfl) 8 rfl) <| w_f b69 d69_136 rfl rfl rfl <| w_f b69 d69_137 rfl rfl rfl <| w_gr b69 d69_138 rfl rfl hs (tlt 0 rfl) tbC_0 rfl (bxr0 (bxc 1 rfl)) <| w_f b69 d69_141 rfl rfl rfl <| w_cc b69 d69_142 rfl (pcl_v (n := 1) rfl rfl rfl (by decide +kernel) (sh_isOb hs (bx00 (bxc 1 rfl)) (tb0 (bxc 1 rfl))) rfl rfl) rfl <| c44 hs (bxc 1 rfl) hx1 ((h.1 c1).2.2.2.2.2.2.2.2 c2).1 <| w_c b69 d69_145 rfl (pcl_v (n := 2) rfl rfl rfl (by decide +kernel) (sh_isOb hs (bxk (bxc 1 rfl) 8 rfl) (tb8 (bxc 1 rfl))) rfl rfl) rfl _ (hK_I fun u6 w5 hbu6 hkw5 => w_ri b69 d69_148 r69 hkw5.2) ((h.1 c1).2.2.2.2.2.2.2.2 c2).2))))))))) (fun c1 => h.2 c1)
theorem e69 {w : PW} {Q : PO → PW → Prop} {x1 : Int} {x2 : Int} (hs : Sh w) (hx1 : bd x1) (hx2 : bd x2) (h : ((0 ≤ x1 ∧ x1 < gI w 1 4) → (x2 < 0 ∨ 7 < x2 → Q (.inr 1) w) ∧ (x2 = 0 → (0 ≤ x1 ∧ x1 < 12) ∧ Q (.inl (some (iv (gI w (1 + 1) x1.toNat)))) w) ∧ (x2 = 1 → (0 ≤ x1 ∧ x1 < 12) ∧ Q (.inl (some (iv (gI w (1 + 2) x1.toNat)))) w) ∧ (x2 = 2 → (0 ≤ x1 ∧ x1 < 12) ∧ Q (.inl (some (iv ((gI w (1 + 2) (x1).toNat) * (gI w 1 3))))) w) ∧ (x2 = 3 → pC 68 [.ref 1, iv x1] w (kI fun u4 w3 => Sh w3 ∧ Q (.inl (some (iv u4))) w3)) ∧ (x2 = 4 → (0 ≤ x1 ∧ x1 < 12) ∧ Q (.inl (some (iv (gI w (1 + 9) x1.toNat)))) w) ∧ (x2 = 5 → (0 ≤ x1 ∧ x1 < 12) ∧ Q (.inl (some (iv (gI w (1 + 10) x1.toNat)))) w) ∧ (x2 = 6 → (0 ≤ x1 ∧ x1 < 12) ∧ Q (.inl (some (iv (gI w (1 + 11) x1.toNat)))) w) ∧ (x2 = 7 → (0 ≤ x1 ∧ x1 < 12) ∧ pC 45 [.ref (1 + 8), iv x1, iv ((gI w (1 + 2) (x1).toNat) * (gI w 1 3))] w (kI fun u6 w5 => Sh w5 ∧ Q (.inl (some (iv u6))) w5))) ∧ (¬ (0 ≤ x1 ∧ x1 < gI w 1 4) → Q (.inr 2) w)) : pC 69 [.ref 0, iv x1, iv x2] w Q :=
  (pC_in (Nat.le_of_ble_eq_true rfl) rfl Q).mpr (v69_0 hs hx1 hx2 h)
/-! 74: PinBarrel.note(II)I -/
theorem b74 : mB 74 = cX8_note := rfl
theorem r74 : mR 74 = (some .int) := rfl
theorem d74_0 : decode cX8_note 0 = .ok (.aload_n 0, 1) := by decide +kernel
theorem d74_1 : decode cX8_note 1 = .ok (.iload_n 1, 1) := by decide +kernel
theorem d74_2 : decode cX8_note 2 = .ok (.invokevirtual 178, 3) := by decide +kernel
theorem d74_5 : decode cX8_note 5 = .ok (.iload_n 2, 1) := by decide +kernel
theorem d74_6 : decode cX8_note 6 = .ok (.tableswitch 78 0 3 #[30, 43, 56, 69], 30) := by decide +kernel
theorem d74_36 : decode cX8_note 36 = .ok (.aload_n 0, 1) := by decide +kernel
theorem d74_37 : decode cX8_note 37 = .ok (.getfield 12, 3) := by decide +kernel
theorem d74_40 : decode cX8_note 40 = .ok (.getfield 87, 3) := by decide +kernel
theorem d74_43 : decode cX8_note 43 = .ok (.getfield 181, 3) := by decide +kernel
theorem d74_46 : decode cX8_note 46 = .ok (.iload_n 1, 1) := by decide +kernel
theorem d74_47 : decode cX8_note 47 = .ok (.iaload, 1) := by decide +kernel
theorem d74_48 : decode cX8_note 48 = .ok (.ireturn, 1) := by decide +kernel
theorem d74_49 : decode cX8_note 49 = .ok (.aload_n 0, 1) := by decide +kernel
theorem d74_50 : decode cX8_note 50 = .ok (.getfield 12, 3) := by decide +kernel
theorem d74_53 : decode cX8_note 53 = .ok (.getfield 87, 3) := by decide +kernel
theorem d74_56 : decode cX8_note 56 = .ok (.getfield 183, 3) := by decide +kernel
theorem d74_59 : decode cX8_note 59 = .ok (.iload_n 1, 1) := by decide +kernel
theorem d74_60 : decode cX8_note 60 = .ok (.iaload, 1) := by decide +kernel
theorem d74_61 : decode cX8_note 61 = .ok (.ireturn, 1) := by decide +kernel
theorem d74_62 : decode cX8_note 62 = .ok (.aload_n 0, 1) := by decide +kernel
theorem d74_63 : decode cX8_note 63 = .ok (.getfield 12, 3) := by decide +kernel
theorem d74_66 : decode cX8_note 66 = .ok (.getfield 87, 3) := by decide +kernel
theorem d74_69 : decode cX8_note 69 = .ok (.getfield 185, 3) := by decide +kernel
theorem d74_72 : decode cX8_note 72 = .ok (.iload_n 1, 1) := by decide +kernel
theorem d74_73 : decode cX8_note 73 = .ok (.iaload, 1) := by decide +kernel
theorem d74_74 : decode cX8_note 74 = .ok (.ireturn, 1) := by decide +kernel
theorem d74_75 : decode cX8_note 75 = .ok (.aload_n 0, 1) := by decide +kernel
theorem d74_76 : decode cX8_note 76 = .ok (.getfield 12, 3) := by decide +kernel
theorem d74_79 : decode cX8_note 79 = .ok (.iload_n 1, 1) := by decide +kernel
theorem d74_80 : decode cX8_note 80 = .ok (.invokevirtual 186, 3) := by decide +kernel
theorem d74_83 : decode cX8_note 83 = .ok (.ireturn, 1) := by decide +kernel
theorem d74_84 : decode cX8_note 84 = .ok (.new 140, 3) := by decide +kernel
theorem v74_0 {w : PW} {Q : PO → PW → Prop} {x1 : Int} {x2 : Int} (hs : Sh w) (hx1 : bd x1) (hx2 : bd x2) (h : ((0 ≤ x1 ∧ x1 < gI w 5 0) → (x2 < 0 ∨ 3 < x2 → Q (.inr 1) w) ∧ (x2 = 0 → (0 ≤ x1 ∧ x1 < 60) ∧ Q (.inl (some (iv (gI w (1 + 5) x1.toNat)))) w) ∧ (x2 = 1 → (0 ≤ x1 ∧ x1 < 60) ∧ Q (.inl (some (iv (gI w (1 + 6) x1.toNat)))) w) ∧ (x2 = 2 → (0 ≤ x1 ∧ x1 < 60) ∧ Q (.inl (some (iv (gI w (1 + 7) x1.toNat)))) w) ∧ (x2 = 3 → pC 73 [.ref 1, iv x1] w (kI fun u4 w3 => Sh w3 ∧ Q (.inl (some (iv u4))) w3))) ∧ (¬ (0 ≤ x1 ∧ x1 < gI w 5 0) → Q (.inr 2) w)) : pX 74 0 [some (.ref 0), some (iv x1), some (iv x2)] [] w Q :=
  w_f b74 d74_0 rfl rfl rfl <| w_f b74 d74_1 rfl rfl rfl <| w_cc b74 d74_2 rfl (pcl_v (n := 1) rfl rfl rfl (by decide +kernel) (sh_isOb hs (tlt 0 rfl) tbC_0) rfl rfl) rfl <| c71 hs hx1 (fun c1 => w_f b74 d74_5 rfl rfl rfl <| Decidable.byCases (p := x2 < 0 ∨ 3 < x2) (fun c2 => w_tsO b74 d74_6 rfl (by decide +kernel) hx2 c2 <| w_th b74 d74_84 hs.1 rfl rfl rfl ((h.1 c1).1 c2)) (fun cz => Decidable.byCases (p := x2 = 0) (fun c2 => w_tsI (off := 30) b74 d74_6 rfl (by decide +kernel) hx2 cz (by rw [c2]; rfl) <| w_f b74 d74_36 rfl rfl rfl <| w_gr b74 d74_37 rfl rfl hs (tlt 0 rfl) tbC_0 rfl (bxr0 (bxc 1 rfl)) <| w_gr b74 d74_40 rfl rfl hs (bx00 (bxc 1 rfl)) (tb0 (bxc 1 rfl)) rfl (bxr (bxc 1 rfl) 4 rfl) <| w_gr b74 d74_43 rfl rfl hs (bxk (bxc 1 rfl) 4 rfl) (tb4 (bxc 1 rfl)) rfl (bxr (bxc 1 rfl) 5 rfl) <| w_f b74 d74_46 rfl rfl rfl <| w_ial b74 d74_47 rfl hs (bxk (bxc 1 rfl) 5 rfl) (tb5 (bxc 1 rfl)) (bdix (n := 60) ((h.1 c1).2.1 c2).1 rfl) ((h.1 c1).2.1 c2).1 <| w_ri b74 d74_48 r74 ((h.1 c1).2.1 c2).2) (fun cn0 => Decidable.byCases (p := x2 = 1) (fun c2 => w_tsI (off := 43) b74 d74_6 rfl (by decide +kernel) hx2 cz (by rw [c2]; rfl) <| w_f b74 d74_49 rfl rfl rfl <| w_gr b74 d74_50 rfl rfl hs (tlt 0 rfl) tbC_0 rfl (bxr0 (bxc 1 rfl)) <| w_gr b74 d74_53 rfl rfl hs (bx00 (bxc 1 rfl)) (tb0 (bxc 1 rfl)) rfl (bxr (bxc 1 rfl) 4 rfl) <| w_gr b74 d74_56 rfl rfl hs (bxk (bxc 1 rfl) 4 rfl) (tb4 (bxc 1 rfl)) rfl (bxr (bxc 1 rfl) 6 rfl) <| w_f b74 d74_59 rfl rfl rfl <| w_ial b74 d74_60 rfl hs (bxk (bxc 1 rfl) 6 rfl) (tb6 (bxc 1 rfl)) (bdix (n := 60) ((h.1 c1).2.2.1 c2).1 rfl) ((h.1 c1).2.2.1 c2).1 <| w_ri b74 d74_61 r74 ((h.1 c1).2.2.1 c2).2) (fun cn1 => Decidable.byCases (p := x2 = 2) (fun c2 => w_tsI (off := 56) b74 d74_6 rfl (by decide +kernel) hx2 cz (by rw [c2]; rfl) <| w_f b74 d74_62 rfl rfl rfl <| w_gr b74 d74_63 rfl rfl hs (tlt 0 rfl) tbC_0 rfl (bxr0 (bxc 1 rfl)) <| w_gr b74 d74_66 rfl rfl hs (bx00 (bxc 1 rfl)) (tb0 (bxc 1 rfl)) rfl (bxr (bxc 1 rfl) 4 rfl) <| w_gr b74 d74_69 rfl rfl hs (bxk (bxc 1 rfl) 4 rfl) (tb4 (bxc 1 rfl)) rfl (bxr (bxc 1 rfl) 7 rfl) <| w_f b74 d74_72 rfl rfl rfl <| w_ial b74 d74_73 rfl hs (bxk (bxc 1 rfl) 7 rfl) (tb7 (bxc 1 rfl)) (bdix (n := 60) ((h.1 c1).2.2.2.1 c2).1 rfl) ((h.1 c1).2.2.2.1 c2).1 <| w_ri b74 d74_74 r74 ((h.1 c1).2.2.2.1 c2).2) (fun cn2 => have c2 : x2 = 3 := by omega
  w_tsI (off := 69) b74 d74_6 rfl (by decide +kernel) hx2 cz (by rw [c2]; rfl) <| w_f b74 d74_75 rfl rfl rfl <| w_gr b74 d74_76 rfl rfl hs (tlt 0 rfl) tbC_0 rfl (bxr0 (bxc 1 rfl)) <| w_f b74 d74_79 rfl rfl rfl <| w_c b74 d74_80 rfl (pcl_v (n := 1) rfl rfl rfl (by decide +kernel) (sh_isOb hs (bx00 (bxc 1 rfl)) (tb0 (bxc 1 rfl))) rfl rfl) rfl _ (hK_I fun u4 w3 hbu4 hkw3 => w_ri b74 d74_83 r74 hkw3.2) ((h.1 c1).2.2.2.2 c2)))))) (fun c1 => h.2 c1)
theorem e74 {w : PW} {Q : PO → PW → Prop} {x1 : Int} {x2 : Int} (hs : Sh w) (hx1 : bd x1) (hx2 : bd x2) (h : ((0 ≤ x1 ∧ x1 < gI w 5 0) → (x2 < 0 ∨ 3 < x2 → Q (.inr 1) w) ∧ (x2 = 0 → (0 ≤ x1 ∧ x1 < 60) ∧ Q (.inl (some (iv (gI w (1 + 5) x1.toNat)))) w) ∧ (x2 = 1 → (0 ≤ x1 ∧ x1 < 60) ∧ Q (.inl (some (iv (gI w (1 + 6) x1.toNat)))) w) ∧ (x2 = 2 → (0 ≤ x1 ∧ x1 < 60) ∧ Q (.inl (some (iv (gI w (1 + 7) x1.toNat)))) w) ∧ (x2 = 3 → pC 73 [.ref 1, iv x1] w (kI fun u4 w3 => Sh w3 ∧ Q (.inl (some (iv u4))) w3))) ∧ (¬ (0 ≤ x1 ∧ x1 < gI w 5 0) → Q (.inr 2) w)) : pC 74 [.ref 0, iv x1, iv x2] w Q :=
  (pC_in (Nat.le_of_ble_eq_true rfl) rfl Q).mpr (v74_0 hs hx1 hx2 h)
def sSize (m : Row) (n : Nat) (x : Int) : Int := if x < 6 then m x.toNat else if x = 6 then sAll m else if x = 7 then m 6 else if x = 8 then m 7 else if x = 9 then m 8 else if x = 10 then m 9 else if x = 11 then m 10 else if x = 12 then (sCo m : Nat) else (n : Int)
def sp65 (m : Row) (n : Nat) (x : Int) : PO := spR 0 13 x (rI (sSize m n x))
theorem c65 {w : PW} {Q : PO → PW → Prop} {m : Row} {n : Nat} {x1 : Int} (hs : Sh w) (hB : BR w 1 m) (hn : gI w 27 2 = (n : Int)) (hx1 : bd x1) (h : Q (sp65 m n x1) w) : pC 65 [.ref 0, iv x1] w Q := by
  have ha := sAll_bd hB.ok
  have hc := sCo_bd m
  have hv : ∀ z, sSize m n x1 = z → 0 ≤ x1 ∧ x1 ≤ 13 → Q (rI z) w := fun z e q => by
    have := sp_t h q
    rw [e] at this
    exact this
  have hi : ∀ k : Nat, k < 6 → x1 = (k : Int) → sSize m n x1 = m k := fun k hk e => by unfold sSize; rw [if_pos (by omega), e]; rfl
  refine e65 hs hx1 ⟨fun q => sp_f h (by omega), fun q => ?_, fun q => ?_, fun q => ?_, fun q => ?_, fun q => ?_, fun q => ?_, fun q => ?_, fun q => ?_, fun q => ?_, fun q => ?_, fun q => ?_, fun q => ?_, fun q => ?_, fun q => ?_⟩
  · rw [hB.s]; exact hv _ (hi 0 (by decide) q) (by omega)
  · rw [hB.u]; exact hv _ (hi 1 (by decide) q) (by omega)
  · rw [hB.g]; exact hv _ (hi 2 (by decide) q) (by omega)
  · rw [hB.v]; exact hv _ (hi 3 (by decide) q) (by omega)
  · rw [hB.t]; exact hv _ (hi 4 (by decide) q) (by omega)
  · rw [hB.n]; exact hv _ (hi 5 (by decide) q) (by omega)
  · exact c59 hs hB (kI_iv ⟨by omega, by omega⟩ ⟨hs, hv _ (by unfold sSize; rw [if_neg (by omega), if_pos q]) (by omega)⟩)
  · rw [hB.pu]; exact hv _ (by unfold sSize; rw [if_neg (by omega), if_neg (by omega), if_pos q]) (by omega)
  · rw [hB.ps]; exact hv _ (by unfold sSize; rw [if_neg (by omega), if_neg (by omega), if_neg (by omega), if_pos q]) (by omega)
  · rw [hB.pt]; exact hv _ (by unfold sSize; rw [if_neg (by omega), if_neg (by omega), if_neg (by omega), if_neg (by omega), if_pos q]) (by omega)
  · rw [hB.pp]; exact hv _ (by unfold sSize; rw [if_neg (by omega), if_neg (by omega), if_neg (by omega), if_neg (by omega), if_neg (by omega), if_pos q]) (by omega)
  · rw [hB.pb]; exact hv _ (by unfold sSize; rw [if_neg (by omega), if_neg (by omega), if_neg (by omega), if_neg (by omega), if_neg (by omega), if_neg (by omega), if_pos q]) (by omega)
  · exact c64 hs hB (kI_iv (bdk (by omega)) ⟨hs, hv _ (by unfold sSize; rw [if_neg (by omega), if_neg (by omega), if_neg (by omega), if_neg (by omega), if_neg (by omega), if_neg (by omega), if_neg (by omega), if_pos q]) (by omega)⟩)
  · rw [hn]; exact hv _ (by unfold sSize; rw [if_neg (by omega), if_neg (by omega), if_neg (by omega), if_neg (by omega), if_neg (by omega), if_neg (by omega), if_neg (by omega), if_neg (by omega)]) (by omega)
def sRest (m : Row) (t : Nat) : Int := if rT m t 4 = -1 then 0 else max 0 (rT m t 4 + sNeed m t - m 8)
def sTooA (m : Row) (t : Nat) (x : Int) : Int := if x = 0 then rT m t 0 else if x = 1 then rT m t 1 else if x = 2 then sNeed m t else if x = 3 then sTooth m t else if x = 4 then rT m t 2 else if x = 5 then rT m t 3 else if x = 6 then rT m t 4 else sRest m t
def sp69 (m : Row) (x1 x2 : Int) : PO := spT m x1 (spR 0 7 x2 (rI (sTooA m x1.toNat x2)))
theorem c69 {w : PW} {Q : PO → PW → Prop} {m : Row} {x1 x2 : Int} (hs : Sh w) (hB : BR w 1 m) (hx1 : bd x1) (hx2 : bd x2) (h : Q (sp69 m x1 x2) w) : pC 69 [.ref 0, iv x1, iv x2] w Q := by
  have h4 := hB.ok.t
  have h8 := hB.ok.pt
  refine e69 hs hx1 hx2 ?_
  rw [hB.t]
  refine ⟨fun q1 => ?_, sp_f h⟩
  have hr := sp_t h q1
  obtain ⟨t, rfl⟩ := nat_of q1.1
  rw [Int.toNat_natCast] at hr
  obtain ⟨a1, a2, a3, a4, a5⟩ := hB.T q1.2
  obtain ⟨b1, b2, b3, b4, b5⟩ := hB.ok.T q1.2
  have hn := sNeed_bd hB.ok q1.2
  have hst := sTooth_bd hB.ok t
  have hb : 0 ≤ (t : Int) ∧ (t : Int) < 12 := ⟨by omega, by omega⟩
  have hv : ∀ z, sTooA m t x2 = z → 0 ≤ x2 ∧ x2 ≤ 7 → Q (rI z) w := fun z e q => by
    have := sp_t hr q
    rw [e] at this
    exact this
  rw [Int.toNat_natCast, hB.need q1.2, show (1 + 1 : Nat) = 2 from rfl, show (1 + 2 : Nat) = 3 from rfl, show (1 + 9 : Nat) = 10 from rfl, show (1 + 10 : Nat) = 11 from rfl, show (1 + 11 : Nat) = 12 from rfl]
  refine ⟨fun q => sp_f hr (by omega), fun q => ⟨hb, ?_⟩, fun q => ⟨hb, ?_⟩, fun q => ⟨hb, ?_⟩, fun q => ?_, fun q => ⟨hb, ?_⟩, fun q => ⟨hb, ?_⟩, fun q => ⟨hb, ?_⟩, fun q => ⟨hb, ?_⟩⟩
  · rw [show gI w 2 t = rT m t 0 from a1]; exact hv _ (by unfold sTooA; rw [if_pos q]) (by omega)
  · rw [show gI w 3 t = rT m t 1 from a2]; exact hv _ (by unfold sTooA; rw [if_neg (by omega), if_pos q]) (by omega)
  · exact hv _ (by unfold sTooA; rw [if_neg (by omega), if_neg (by omega), if_pos q]) (by omega)
  · exact c68 hs hB q1.2 (kI_iv ⟨by omega, by omega⟩ ⟨hs, hv _ (by unfold sTooA; rw [if_neg (by omega), if_neg (by omega), if_neg (by omega), if_pos q]) (by omega)⟩)
  · rw [show gI w 10 t = rT m t 2 from a3]; exact hv _ (by unfold sTooA; rw [if_neg (by omega), if_neg (by omega), if_neg (by omega), if_neg (by omega), if_pos q]) (by omega)
  · rw [show gI w 11 t = rT m t 3 from a4]; exact hv _ (by unfold sTooA; rw [if_neg (by omega), if_neg (by omega), if_neg (by omega), if_neg (by omega), if_neg (by omega), if_pos q]) (by omega)
  · rw [show gI w 12 t = rT m t 4 from a5]; exact hv _ (by unfold sTooA; rw [if_neg (by omega), if_neg (by omega), if_neg (by omega), if_neg (by omega), if_neg (by omega), if_neg (by omega), if_pos q]) (by omega)
  · refine c45 (b := 1) hs hB q1.2 (by omega) (kI_iv (by split <;> (constructor <;> omega)) ⟨hs, hv _ ?_ (by omega)⟩)
    unfold sTooA
    rw [if_neg (by omega), if_neg (by omega), if_neg (by omega), if_neg (by omega), if_neg (by omega), if_neg (by omega), if_neg (by omega)]
    rfl
def sNotA (m : Row) (k : Nat) (x : Int) : Int := if x = 3 then sPlay m k else rN m k x.toNat
def sp74 (m : Row) (x1 x2 : Int) : PO := spN m x1 (spR 0 3 x2 (rI (sNotA m x1.toNat x2)))
theorem c74 {w : PW} {Q : PO → PW → Prop} {m : Row} {x1 x2 : Int} (hs : Sh w) (hB : BR w 1 m) (hx1 : bd x1) (hx2 : bd x2) (h : Q (sp74 m x1 x2) w) : pC 74 [.ref 0, iv x1, iv x2] w Q := by
  have h5 := hB.ok.n
  have h4 := hB.ok.t
  refine e74 hs hx1 hx2 ?_
  rw [show gI w 5 0 = m 5 from hB.n]
  refine ⟨fun q1 => ?_, sp_f h⟩
  have hr := sp_t h q1
  obtain ⟨k, rfl⟩ := nat_of q1.1
  rw [Int.toNat_natCast] at hr
  obtain ⟨a1, a2, a3⟩ := hB.N q1.2
  have hp := sPlay_bd hB.ok k
  have hb : 0 ≤ (k : Int) ∧ (k : Int) < 60 := ⟨by omega, by omega⟩
  have hv : ∀ z, sNotA m k x2 = z → 0 ≤ x2 ∧ x2 ≤ 3 → Q (rI z) w := fun z e q => by
    have := sp_t hr q
    rw [e] at this
    exact this
  rw [Int.toNat_natCast, show gI w (1 + 5) k = rN m k 0 from a1, show gI w (1 + 6) k = rN m k 1 from a2, show gI w (1 + 7) k = rN m k 2 from a3]
  refine ⟨fun q => sp_f hr (by omega), fun q => ⟨hb, ?_⟩, fun q => ⟨hb, ?_⟩, fun q => ⟨hb, ?_⟩, fun q => ?_⟩
  · exact hv _ (by unfold sNotA; rw [if_neg (by omega), q]; rfl) (by omega)
  · exact hv _ (by unfold sNotA; rw [if_neg (by omega), q]; rfl) (by omega)
  · exact hv _ (by unfold sNotA; rw [if_neg (by omega), q]; rfl) (by omega)
  · exact c73 hs hB q1.2 (kI_iv ⟨by omega, by omega⟩ ⟨hs, hv _ (by unfold sNotA; rw [if_pos q]) (by omega)⟩)

