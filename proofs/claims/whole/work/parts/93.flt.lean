/-! FLOATS: purity, wear -/
/-! 53: PinBarrel.purity()F -/
theorem b53 : mB 53 = cX8_purity := rfl
theorem r53 : mR 53 = (some .float) := rfl
theorem p53 (a b : Nat) : phi 53 a ≤ phi 53 b := Nat.le_refl 0
theorem d53_0 : decode cX8_purity 0 = .ok (.aload_n 0, 1) := by decide +kernel
theorem d53_1 : decode cX8_purity 1 = .ok (.getfield 12, 3) := by decide +kernel
theorem d53_4 : decode cX8_purity 4 = .ok (.getfield 115, 3) := by decide +kernel
theorem d53_7 : decode cX8_purity 7 = .ok (.getfield 130, 3) := by decide +kernel
theorem d53_10 : decode cX8_purity 10 = .ok (.istore_n 1, 1) := by decide +kernel
theorem d53_11 : decode cX8_purity 11 = .ok (.iload_n 1, 1) := by decide +kernel
theorem d53_12 : decode cX8_purity 12 = .ok (.ifCond .ne 5, 3) := by decide +kernel
theorem d53_15 : decode cX8_purity 15 = .ok (.fconst 1, 1) := by decide +kernel
theorem d53_16 : decode cX8_purity 16 = .ok (.freturn, 1) := by decide +kernel
theorem d53_17 : decode cX8_purity 17 = .ok (.aload_n 0, 1) := by decide +kernel
theorem d53_18 : decode cX8_purity 18 = .ok (.getfield 12, 3) := by decide +kernel
theorem d53_21 : decode cX8_purity 21 = .ok (.getfield 115, 3) := by decide +kernel
theorem d53_24 : decode cX8_purity 24 = .ok (.invokevirtual 320, 3) := by decide +kernel
theorem d53_27 : decode cX8_purity 27 = .ok (.i2f, 1) := by decide +kernel
theorem d53_28 : decode cX8_purity 28 = .ok (.iload_n 1, 1) := by decide +kernel
theorem d53_29 : decode cX8_purity 29 = .ok (.i2f, 1) := by decide +kernel
theorem d53_30 : decode cX8_purity 30 = .ok (.fdiv, 1) := by decide +kernel
theorem d53_31 : decode cX8_purity 31 = .ok (.freturn, 1) := by decide +kernel
theorem v53_0 {w : PW} {Q : PO → PW → Prop}  (hs : Sh w)  (h : ((gI w (1 + 8) 3) ≠ 0 → ((FP.fdiv (FP.i2f (Int32.ofInt ((gI w (1 + 8) 3) - (gI w (1 + 8) 4)))) (FP.i2f (Int32.ofInt (gI w (1 + 8) 3)))) &&& 0x7fffffff ≤ 0x7f800000) ∧ Q (.inl (some (.float (FP.fdiv (FP.i2f (Int32.ofInt ((gI w (1 + 8) 3) - (gI w (1 + 8) 4)))) (FP.i2f (Int32.ofInt (gI w (1 + 8) 3))))))) w) ∧ ((gI w (1 + 8) 3) = 0 → Q (.inl (some (.float FP.fconst1))) w)) : pX 53 0 [some (.ref 0), none] [] w Q :=
  w_f b53 d53_0 rfl rfl rfl <| w_gr b53 d53_1 rfl rfl hs (tlt 0 rfl) tbC_0 rfl (bxr0 (bxc 1 rfl)) <| w_gr b53 d53_4 rfl rfl hs (bx00 (bxc 1 rfl)) (tb0 (bxc 1 rfl)) rfl (bxr (bxc 1 rfl) 8 rfl) <| w_gi b53 d53_7 rfl rfl hs (bxk (bxc 1 rfl) 8 rfl) (tb8 (bxc 1 rfl)) rfl <| w_f b53 d53_10 rfl rfl rfl <| w_f b53 d53_11 rfl rfl rfl <| w_ifne b53 d53_12 rfl rfl (p53 _ _) (bd_gI _ _ _) (fun c1 => w_f b53 d53_17 rfl rfl rfl <| w_gr b53 d53_18 rfl rfl hs (tlt 0 rfl) tbC_0 rfl (bxr0 (bxc 1 rfl)) <| w_gr b53 d53_21 rfl rfl hs (bx00 (bxc 1 rfl)) (tb0 (bxc 1 rfl)) rfl (bxr (bxc 1 rfl) 8 rfl) <| w_cc b53 d53_24 rfl (pcl_v (n := 0) rfl rfl rfl (by decide +kernel) (sh_isOb hs (bxk (bxc 1 rfl) 8 rfl) (tb8 (bxc 1 rfl))) rfl rfl) rfl <| c52 hs (bxc 1 rfl) <| w_f b53 d53_27 rfl rfl rfl <| w_f b53 d53_28 rfl rfl rfl <| w_f b53 d53_29 rfl rfl rfl <| w_f b53 d53_30 rfl (pf_fdiv (h.1 c1).1) rfl <| w_rf b53 d53_31 r53 (h.1 c1).2) (fun c1 => w_f b53 d53_15 rfl rfl rfl <| w_rf b53 d53_16 r53 (h.2 c1))
theorem e53 {w : PW} {Q : PO → PW → Prop}  (hs : Sh w)  (h : ((gI w (1 + 8) 3) ≠ 0 → ((FP.fdiv (FP.i2f (Int32.ofInt ((gI w (1 + 8) 3) - (gI w (1 + 8) 4)))) (FP.i2f (Int32.ofInt (gI w (1 + 8) 3)))) &&& 0x7fffffff ≤ 0x7f800000) ∧ Q (.inl (some (.float (FP.fdiv (FP.i2f (Int32.ofInt ((gI w (1 + 8) 3) - (gI w (1 + 8) 4)))) (FP.i2f (Int32.ofInt (gI w (1 + 8) 3))))))) w) ∧ ((gI w (1 + 8) 3) = 0 → Q (.inl (some (.float FP.fconst1))) w)) : pC 53 [.ref 0] w Q :=
  (pC_in (Nat.le_of_ble_eq_true rfl) rfl Q).mpr (v53_0 hs  h)
/-! 203: PinBarrel.wear(I)D -/
theorem b203 : mB 203 = cX8_wear := rfl
theorem r203 : mR 203 = (some .double) := rfl
theorem d203_0 : decode cX8_wear 0 = .ok (.aload_n 0, 1) := by decide +kernel
theorem d203_1 : decode cX8_wear 1 = .ok (.iload_n 1, 1) := by decide +kernel
theorem d203_2 : decode cX8_wear 2 = .ok (.invokevirtual 147, 3) := by decide +kernel
theorem d203_5 : decode cX8_wear 5 = .ok (.aload_n 0, 1) := by decide +kernel
theorem d203_6 : decode cX8_wear 6 = .ok (.getfield 12, 3) := by decide +kernel
theorem d203_9 : decode cX8_wear 9 = .ok (.invokevirtual 111, 3) := by decide +kernel
theorem d203_12 : decode cX8_wear 12 = .ok (.istore_n 2, 1) := by decide +kernel
theorem d203_13 : decode cX8_wear 13 = .ok (.iload_n 2, 1) := by decide +kernel
theorem d203_14 : decode cX8_wear 14 = .ok (.ifCond .ne 5, 3) := by decide +kernel
theorem d203_17 : decode cX8_wear 17 = .ok (.dconst 0, 1) := by decide +kernel
theorem d203_18 : decode cX8_wear 18 = .ok (.dreturn, 1) := by decide +kernel
theorem d203_19 : decode cX8_wear 19 = .ok (.aload_n 0, 1) := by decide +kernel
theorem d203_20 : decode cX8_wear 20 = .ok (.getfield 12, 3) := by decide +kernel
theorem d203_23 : decode cX8_wear 23 = .ok (.iload_n 1, 1) := by decide +kernel
theorem d203_24 : decode cX8_wear 24 = .ok (.invokevirtual 162, 3) := by decide +kernel
theorem d203_27 : decode cX8_wear 27 = .ok (.i2d, 1) := by decide +kernel
theorem d203_28 : decode cX8_wear 28 = .ok (.iload_n 2, 1) := by decide +kernel
theorem d203_29 : decode cX8_wear 29 = .ok (.i2d, 1) := by decide +kernel
theorem d203_30 : decode cX8_wear 30 = .ok (.ddiv, 1) := by decide +kernel
theorem d203_31 : decode cX8_wear 31 = .ok (.dreturn, 1) := by decide +kernel
theorem v203_0 {w : PW} {Q : PO → PW → Prop} {x1 : Int} (hs : Sh w) (hx1 : bd x1) (h : ((0 ≤ x1 ∧ x1 < gI w 1 4) → pC 59 [.ref 1] w (kI fun u3 w2 => Sh w2 ∧ (u3 ≠ 0 → pC 68 [.ref 1, iv x1] w2 (kI fun u6 w5 => Sh w5 ∧ ((FP.ddiv (FP.i2d (Int32.ofInt u6)) (FP.i2d (Int32.ofInt u3))) &&& 0x7fffffffffffffff ≤ 0x7ff0000000000000) ∧ Q (.inl (some (.double (FP.ddiv (FP.i2d (Int32.ofInt u6)) (FP.i2d (Int32.ofInt u3)))))) w5)) ∧ (u3 = 0 → Q (.inl (some (.double FP.dconst0))) w2))) ∧ (¬ (0 ≤ x1 ∧ x1 < gI w 1 4) → Q (.inr 2) w)) : pX 203 0 [some (.ref 0), some (iv x1), none] [] w Q :=
  w_f b203 d203_0 rfl rfl rfl <| w_f b203 d203_1 rfl rfl rfl <| w_cc b203 d203_2 rfl (pcl_v (n := 1) rfl rfl rfl (by decide +kernel) (sh_isOb hs (tlt 0 rfl) tbC_0) rfl rfl) rfl <| c67 hs hx1 (fun c1 => w_f b203 d203_5 rfl rfl rfl <| w_gr b203 d203_6 rfl rfl hs (tlt 0 rfl) tbC_0 rfl (bxr0 (bxc 1 rfl)) <| w_c b203 d203_9 rfl (pcl_v (n := 0) rfl rfl rfl (by decide +kernel) (sh_isOb hs (bx00 (bxc 1 rfl)) (tb0 (bxc 1 rfl))) rfl rfl) rfl _ (hK_I fun u3 w2 hbu3 hkw2 => w_f b203 d203_12 rfl rfl rfl <| w_f b203 d203_13 rfl rfl rfl <| w_ifne b203 d203_14 rfl rfl (by decide +kernel) hbu3 (fun c4 => w_f b203 d203_19 rfl rfl rfl <| w_gr b203 d203_20 rfl rfl hkw2.1 (tlt 0 rfl) tbC_0 rfl (bxr0 (bxc 1 rfl)) <| w_f b203 d203_23 rfl rfl rfl <| w_c b203 d203_24 rfl (pcl_v (n := 1) rfl rfl rfl (by decide +kernel) (sh_isOb hkw2.1 (bx00 (bxc 1 rfl)) (tb0 (bxc 1 rfl))) rfl rfl) rfl _ (hK_I fun u6 w5 hbu6 hkw5 => w_f b203 d203_27 rfl rfl rfl <| w_f b203 d203_28 rfl rfl rfl <| w_f b203 d203_29 rfl rfl rfl <| w_f b203 d203_30 rfl (pf_ddiv hkw5.2.1) rfl <| w_rd b203 d203_31 r203 hkw5.2.2) (hkw2.2.1 c4)) (fun c4 => w_f b203 d203_17 rfl rfl rfl <| w_rd b203 d203_18 r203 (hkw2.2.2 c4))) (h.1 c1)) (fun c1 => h.2 c1)
theorem e203 {w : PW} {Q : PO → PW → Prop} {x1 : Int} (hs : Sh w) (hx1 : bd x1) (h : ((0 ≤ x1 ∧ x1 < gI w 1 4) → pC 59 [.ref 1] w (kI fun u3 w2 => Sh w2 ∧ (u3 ≠ 0 → pC 68 [.ref 1, iv x1] w2 (kI fun u6 w5 => Sh w5 ∧ ((FP.ddiv (FP.i2d (Int32.ofInt u6)) (FP.i2d (Int32.ofInt u3))) &&& 0x7fffffffffffffff ≤ 0x7ff0000000000000) ∧ Q (.inl (some (.double (FP.ddiv (FP.i2d (Int32.ofInt u6)) (FP.i2d (Int32.ofInt u3)))))) w5)) ∧ (u3 = 0 → Q (.inl (some (.double FP.dconst0))) w2))) ∧ (¬ (0 ≤ x1 ∧ x1 < gI w 1 4) → Q (.inr 2) w)) : pC 203 [.ref 0, iv x1] w Q :=
  (pC_in (Nat.le_of_ble_eq_true rfl) rfl Q).mpr (v203_0 hs hx1 h)
/-! 345: PinBarrelModel.wear(I)D -/
theorem b345 : mB 345 = cX9_wear := rfl
theorem r345 : mR 345 = (some .double) := rfl
theorem p345 (a b : Nat) : phi 345 a ≤ phi 345 b := Nat.le_refl 0
theorem d345_0 : decode cX9_wear 0 = .ok (.aload_n 0, 1) := by decide +kernel
theorem d345_1 : decode cX9_wear 1 = .ok (.iload_n 1, 1) := by decide +kernel
theorem d345_2 : decode cX9_wear 2 = .ok (.invokevirtual 351, 3) := by decide +kernel
theorem d345_5 : decode cX9_wear 5 = .ok (.ifCond .eq 5, 3) := by decide +kernel
theorem d345_8 : decode cX9_wear 8 = .ok (.dconst 0, 1) := by decide +kernel
theorem d345_9 : decode cX9_wear 9 = .ok (.dreturn, 1) := by decide +kernel
theorem d345_10 : decode cX9_wear 10 = .ok (.aload_n 0, 1) := by decide +kernel
theorem d345_11 : decode cX9_wear 11 = .ok (.invokevirtual 332, 3) := by decide +kernel
theorem d345_14 : decode cX9_wear 14 = .ok (.istore_n 2, 1) := by decide +kernel
theorem d345_15 : decode cX9_wear 15 = .ok (.iload_n 2, 1) := by decide +kernel
theorem d345_16 : decode cX9_wear 16 = .ok (.ifCond .ne 7, 3) := by decide +kernel
theorem d345_19 : decode cX9_wear 19 = .ok (.dconst 0, 1) := by decide +kernel
theorem d345_20 : decode cX9_wear 20 = .ok (.goto 12, 3) := by decide +kernel
theorem d345_23 : decode cX9_wear 23 = .ok (.aload_n 0, 1) := by decide +kernel
theorem d345_24 : decode cX9_wear 24 = .ok (.iload_n 1, 1) := by decide +kernel
theorem d345_25 : decode cX9_wear 25 = .ok (.invokevirtual 360, 3) := by decide +kernel
theorem d345_28 : decode cX9_wear 28 = .ok (.i2d, 1) := by decide +kernel
theorem d345_29 : decode cX9_wear 29 = .ok (.iload_n 2, 1) := by decide +kernel
theorem d345_30 : decode cX9_wear 30 = .ok (.i2d, 1) := by decide +kernel
theorem d345_31 : decode cX9_wear 31 = .ok (.ddiv, 1) := by decide +kernel
theorem d345_32 : decode cX9_wear 32 = .ok (.dreturn, 1) := by decide +kernel
theorem v345_0 {w : PW} {Q : PO → PW → Prop} {x1 : Int} (hs : Sh w) (hx1 : bd x1) (h : (bd ((gI w 170 4) - 1)) ∧ ((0 ≤ x1 ∧ x1 < gI w 170 4) → ∀ w2 : PW, w2 = sI w 169 0 0 → pC 248 [.ref 169] w2 (kI fun u4 w3 => Sh w3 ∧ (u4 ≠ 0 → pC 263 [.ref 169, iv x1] w3 (kI fun u7 w6 => Sh w6 ∧ ((FP.ddiv (FP.i2d (Int32.ofInt u7)) (FP.i2d (Int32.ofInt u4))) &&& 0x7fffffffffffffff ≤ 0x7ff0000000000000) ∧ Q (.inl (some (.double (FP.ddiv (FP.i2d (Int32.ofInt u7)) (FP.i2d (Int32.ofInt u4)))))) w6)) ∧ (u4 = 0 → Q (.inl (some (.double FP.dconst0))) w3))) ∧ ((¬ (0 ≤ x1 ∧ x1 < gI w 170 4)) → ∀ w9 : PW, w9 = sI w 169 0 1 → Q (.inl (some (.double FP.dconst0))) w9)) : pX 345 0 [some (.ref 169), some (iv x1), none] [] w Q :=
  w_f b345 d345_0 rfl rfl rfl <| w_f b345 d345_1 rfl rfl rfl <| w_cc b345 d345_2 rfl (pcl_v (n := 1) rfl rfl rfl (by decide +kernel) (sh_isOb hs (tlt 169 rfl) tbC_169) rfl rfl) rfl <| c259 hs hx1 h.1 (fun c1 => w_ifeq b345 d345_5 rfl rfl (p345 _ _) ⟨by decide, by decide⟩ (fun _ => w_f b345 d345_10 rfl rfl rfl <| w_c b345 d345_11 rfl (pcl_v (n := 0) rfl rfl rfl (by decide +kernel) (sh_isOb (Sh_sI hs (slt_o tbC_169 rfl)) (tlt 169 rfl) tbC_169) rfl rfl) rfl _ (hK_I fun u4 w3 hbu4 hkw3 => w_f b345 d345_14 rfl rfl rfl <| w_f b345 d345_15 rfl rfl rfl <| w_ifne b345 d345_16 rfl rfl (p345 _ _) hbu4 (fun c5 => w_f b345 d345_23 rfl rfl rfl <| w_f b345 d345_24 rfl rfl rfl <| w_c b345 d345_25 rfl (pcl_v (n := 1) rfl rfl rfl (by decide +kernel) (sh_isOb hkw3.1 (tlt 169 rfl) tbC_169) rfl rfl) rfl _ (hK_I fun u7 w6 hbu7 hkw6 => w_f b345 d345_28 rfl rfl rfl <| w_f b345 d345_29 rfl rfl rfl <| w_f b345 d345_30 rfl rfl rfl <| w_f b345 d345_31 rfl (pf_ddiv hkw6.2.1) rfl <| w_rd b345 d345_32 r345 hkw6.2.2) (hkw3.2.1 c5)) (fun c5 => w_f b345 d345_19 rfl rfl rfl <| w_j b345 d345_20 rfl (p345 _ _) <| w_rd b345 d345_32 r345 (hkw3.2.2 c5))) (h.2.1 c1 _ rfl)) (fun c => absurd c (by decide))) (fun c8 => w_ifeq b345 d345_5 rfl rfl (p345 _ _) ⟨by decide, by decide⟩ (fun c => absurd c (by decide)) (fun _ => w_f b345 d345_8 rfl rfl rfl <| w_rd b345 d345_9 r345 (h.2.2 c8 _ rfl)))
theorem e345 {w : PW} {Q : PO → PW → Prop} {x1 : Int} (hs : Sh w) (hx1 : bd x1) (h : (bd ((gI w 170 4) - 1)) ∧ ((0 ≤ x1 ∧ x1 < gI w 170 4) → ∀ w2 : PW, w2 = sI w 169 0 0 → pC 248 [.ref 169] w2 (kI fun u4 w3 => Sh w3 ∧ (u4 ≠ 0 → pC 263 [.ref 169, iv x1] w3 (kI fun u7 w6 => Sh w6 ∧ ((FP.ddiv (FP.i2d (Int32.ofInt u7)) (FP.i2d (Int32.ofInt u4))) &&& 0x7fffffffffffffff ≤ 0x7ff0000000000000) ∧ Q (.inl (some (.double (FP.ddiv (FP.i2d (Int32.ofInt u7)) (FP.i2d (Int32.ofInt u4)))))) w6)) ∧ (u4 = 0 → Q (.inl (some (.double FP.dconst0))) w3))) ∧ ((¬ (0 ≤ x1 ∧ x1 < gI w 170 4)) → ∀ w9 : PW, w9 = sI w 169 0 1 → Q (.inl (some (.double FP.dconst0))) w9)) : pC 345 [.ref 169, iv x1] w Q :=
  (pC_in (Nat.le_of_ble_eq_true rfl) rfl Q).mpr (v345_0 hs hx1 h)
/-! 346: PinBarrelModel.purity()F -/
theorem b346 : mB 346 = cX9_purity := rfl
theorem r346 : mR 346 = (some .float) := rfl
theorem p346 (a b : Nat) : phi 346 a ≤ phi 346 b := Nat.le_refl 0
theorem d346_0 : decode cX9_purity 0 = .ok (.aload_n 0, 1) := by decide +kernel
theorem d346_1 : decode cX9_purity 1 = .ok (.iconst 0, 1) := by decide +kernel
theorem d346_2 : decode cX9_purity 2 = .ok (.putfield 50, 3) := by decide +kernel
theorem d346_5 : decode cX9_purity 5 = .ok (.aload_n 0, 1) := by decide +kernel
theorem d346_6 : decode cX9_purity 6 = .ok (.getfield 9, 3) := by decide +kernel
theorem d346_9 : decode cX9_purity 9 = .ok (.bipush 9, 2) := by decide +kernel
theorem d346_11 : decode cX9_purity 11 = .ok (.iaload, 1) := by decide +kernel
theorem d346_12 : decode cX9_purity 12 = .ok (.ifCond .ne 7, 3) := by decide +kernel
theorem d346_15 : decode cX9_purity 15 = .ok (.fconst 1, 1) := by decide +kernel
theorem d346_16 : decode cX9_purity 16 = .ok (.goto 28, 3) := by decide +kernel
theorem d346_19 : decode cX9_purity 19 = .ok (.aload_n 0, 1) := by decide +kernel
theorem d346_20 : decode cX9_purity 20 = .ok (.getfield 9, 3) := by decide +kernel
theorem d346_23 : decode cX9_purity 23 = .ok (.bipush 9, 2) := by decide +kernel
theorem d346_25 : decode cX9_purity 25 = .ok (.iaload, 1) := by decide +kernel
theorem d346_26 : decode cX9_purity 26 = .ok (.aload_n 0, 1) := by decide +kernel
theorem d346_27 : decode cX9_purity 27 = .ok (.getfield 9, 3) := by decide +kernel
theorem d346_30 : decode cX9_purity 30 = .ok (.bipush 10, 2) := by decide +kernel
theorem d346_32 : decode cX9_purity 32 = .ok (.iaload, 1) := by decide +kernel
theorem d346_33 : decode cX9_purity 33 = .ok (.isub, 1) := by decide +kernel
theorem d346_34 : decode cX9_purity 34 = .ok (.i2f, 1) := by decide +kernel
theorem d346_35 : decode cX9_purity 35 = .ok (.aload_n 0, 1) := by decide +kernel
theorem d346_36 : decode cX9_purity 36 = .ok (.getfield 9, 3) := by decide +kernel
theorem d346_39 : decode cX9_purity 39 = .ok (.bipush 9, 2) := by decide +kernel
theorem d346_41 : decode cX9_purity 41 = .ok (.iaload, 1) := by decide +kernel
theorem d346_42 : decode cX9_purity 42 = .ok (.i2f, 1) := by decide +kernel
theorem d346_43 : decode cX9_purity 43 = .ok (.fdiv, 1) := by decide +kernel
theorem d346_44 : decode cX9_purity 44 = .ok (.freturn, 1) := by decide +kernel
theorem v346_0 {w : PW} {Q : PO → PW → Prop}  (hs : Sh w)  (h : ∀ w1 : PW, w1 = sI w 169 0 0 → ((gI w1 170 9) ≠ 0 → ((FP.fdiv (FP.i2f (Int32.ofInt ((gI w1 170 9) - (gI w1 170 10)))) (FP.i2f (Int32.ofInt (gI w1 170 9)))) &&& 0x7fffffff ≤ 0x7f800000) ∧ Q (.inl (some (.float (FP.fdiv (FP.i2f (Int32.ofInt ((gI w1 170 9) - (gI w1 170 10)))) (FP.i2f (Int32.ofInt (gI w1 170 9))))))) w1) ∧ ((gI w1 170 9) = 0 → Q (.inl (some (.float FP.fconst1))) w1)) : pX 346 0 [some (.ref 169)] [] w Q :=
  w_f b346 d346_0 rfl rfl rfl <| w_f b346 d346_1 rfl rfl rfl <| w_pi b346 d346_2 rfl rfl hs (tlt 169 rfl) tbC_169 rfl rfl rfl <| w_f b346 d346_5 rfl rfl rfl <| w_gr b346 d346_6 rfl rfl (Sh_sI hs (slt_o tbC_169 rfl)) (tlt 169 rfl) tbC_169 rfl (by decide) <| w_f b346 d346_9 rfl rfl rfl <| w_ial b346 d346_11 rfl (Sh_sI hs (slt_o tbC_169 rfl)) (tlt 170 rfl) tbC_170 (bdix (n := 843) ⟨by decide, by decide⟩ rfl) ⟨by decide, by decide⟩ <| w_ifne b346 d346_12 rfl rfl (p346 _ _) (bd_gI _ _ _) (fun c2 => w_f b346 d346_19 rfl rfl rfl <| w_gr b346 d346_20 rfl rfl (Sh_sI hs (slt_o tbC_169 rfl)) (tlt 169 rfl) tbC_169 rfl (by decide) <| w_f b346 d346_23 rfl rfl rfl <| w_ial b346 d346_25 rfl (Sh_sI hs (slt_o tbC_169 rfl)) (tlt 170 rfl) tbC_170 (bdix (n := 843) ⟨by decide, by decide⟩ rfl) ⟨by decide, by decide⟩ <| w_f b346 d346_26 rfl rfl rfl <| w_gr b346 d346_27 rfl rfl (Sh_sI hs (slt_o tbC_169 rfl)) (tlt 169 rfl) tbC_169 rfl (by decide) <| w_f b346 d346_30 rfl rfl rfl <| w_ial b346 d346_32 rfl (Sh_sI hs (slt_o tbC_169 rfl)) (tlt 170 rfl) tbC_170 (bdix (n := 843) ⟨by decide, by decide⟩ rfl) ⟨by decide, by decide⟩ <| w_f b346 d346_33 rfl (pf_isub _ _) rfl <| w_f b346 d346_34 rfl rfl rfl <| w_f b346 d346_35 rfl rfl rfl <| w_gr b346 d346_36 rfl rfl (Sh_sI hs (slt_o tbC_169 rfl)) (tlt 169 rfl) tbC_169 rfl (by decide) <| w_f b346 d346_39 rfl rfl rfl <| w_ial b346 d346_41 rfl (Sh_sI hs (slt_o tbC_169 rfl)) (tlt 170 rfl) tbC_170 (bdix (n := 843) ⟨by decide, by decide⟩ rfl) ⟨by decide, by decide⟩ <| w_f b346 d346_42 rfl rfl rfl <| w_f b346 d346_43 rfl (pf_fdiv ((h _ rfl).1 c2).1) rfl <| w_rf b346 d346_44 r346 ((h _ rfl).1 c2).2) (fun c2 => w_f b346 d346_15 rfl rfl rfl <| w_j b346 d346_16 rfl (p346 _ _) <| w_rf b346 d346_44 r346 ((h _ rfl).2 c2))
theorem e346 {w : PW} {Q : PO → PW → Prop}  (hs : Sh w)  (h : ∀ w1 : PW, w1 = sI w 169 0 0 → ((gI w1 170 9) ≠ 0 → ((FP.fdiv (FP.i2f (Int32.ofInt ((gI w1 170 9) - (gI w1 170 10)))) (FP.i2f (Int32.ofInt (gI w1 170 9)))) &&& 0x7fffffff ≤ 0x7f800000) ∧ Q (.inl (some (.float (FP.fdiv (FP.i2f (Int32.ofInt ((gI w1 170 9) - (gI w1 170 10)))) (FP.i2f (Int32.ofInt (gI w1 170 9))))))) w1) ∧ ((gI w1 170 9) = 0 → Q (.inl (some (.float FP.fconst1))) w1)) : pC 346 [.ref 169] w Q :=
  (pC_in (Nat.le_of_ble_eq_true rfl) rfl Q).mpr (v346_0 hs  h)
/-! 204: PinBarrelLaw.wear(LPinBarrel;I[D)I -/
theorem b204 : mB 204 = cL_wear := rfl
theorem r204 : mR 204 = (some .int) := rfl
theorem d204_0 : decode cL_wear 0 = .ok (.aload_n 2, 1) := by decide +kernel
theorem d204_1 : decode cL_wear 1 = .ok (.iconst 0, 1) := by decide +kernel
theorem d204_2 : decode cL_wear 2 = .ok (.aload_n 0, 1) := by decide +kernel
theorem d204_3 : decode cL_wear 3 = .ok (.iload_n 1, 1) := by decide +kernel
theorem d204_4 : decode cL_wear 4 = .ok (.invokevirtual 148, 3) := by decide +kernel
theorem d204_7 : decode cL_wear 7 = .ok (.dastore, 1) := by decide +kernel
theorem d204_8 : decode cL_wear 8 = .ok (.goto 6, 3) := by decide +kernel
theorem d204_12 : decode cL_wear 12 = .ok (.iconst 1, 1) := by decide +kernel
theorem d204_13 : decode cL_wear 13 = .ok (.ireturn, 1) := by decide +kernel
theorem d204_14 : decode cL_wear 14 = .ok (.iconst 0, 1) := by decide +kernel
theorem d204_15 : decode cL_wear 15 = .ok (.ireturn, 1) := by decide +kernel
theorem v204_0 {w : PW} {Q : PO → PW → Prop} {x1 : Int} (hs : Sh w) (hx1 : bd x1) (h : pC 203 [.ref 0, iv x1] w (kH (kD fun u2 w1 => Sh w1 ∧ ∀ w3 : PW, w3 = sD w1 181 0 u2 → Q (.inl (some (iv 0))) w3) (fun E w4 => (E = 2 ∧ Sh w4 ∧ Q (.inl (some (iv 1))) w4)))) : pX 204 0 [some (.ref 0), some (iv x1), some (.ref 181), none] [] w Q :=
  w_f b204 d204_0 rfl rfl rfl <| w_f b204 d204_1 rfl rfl rfl <| w_f b204 d204_2 rfl rfl rfl <| w_f b204 d204_3 rfl rfl rfl <| w_c b204 d204_4 rfl (pcl_v (n := 1) rfl rfl rfl (by decide +kernel) (sh_isOb hs (tlt 0 rfl) tbC_0) rfl rfl) rfl _ (hK_H (hK_D fun u2 w1 hkw1 => w_das b204 d204_7 rfl hkw1.1 (tlt 181 rfl) tbC_181 (bdix (n := 1) ⟨by decide, by decide⟩ rfl) ⟨by decide, by decide⟩ <| w_j b204 d204_8 rfl (by decide +kernel) <| w_f b204 d204_14 rfl rfl rfl <| w_ri b204 d204_15 r204 (hkw1.2 _ rfl)) (fun E w4 => (fun q => by
  obtain ⟨rfl, hsw4, hkw4⟩ := q
  show (4 + 3 ≤ 11 ∧ 3 < 4) ∧ pX 204 12 [some (.ref 0), some (iv x1), some (.ref 181), none] [] w4 Q
  exact ⟨⟨by decide, by decide⟩, w_f b204 d204_12 rfl rfl rfl <| w_ri b204 d204_13 r204 hkw4⟩))) h
theorem e204 {w : PW} {Q : PO → PW → Prop} {x1 : Int} (hs : Sh w) (hx1 : bd x1) (h : pC 203 [.ref 0, iv x1] w (kH (kD fun u2 w1 => Sh w1 ∧ ∀ w3 : PW, w3 = sD w1 181 0 u2 → Q (.inl (some (iv 0))) w3) (fun E w4 => (E = 2 ∧ Sh w4 ∧ Q (.inl (some (iv 1))) w4)))) : pC 204 [.ref 0, iv x1, .ref 181] w Q :=
  (pC_in (Nat.le_of_ble_eq_true rfl) rfl Q).mpr (v204_0 hs hx1 h)
