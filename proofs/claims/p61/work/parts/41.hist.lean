/-! A TOOTH MORE, A NEW BOX, THE PAST: the class -/
/-! 16: java/util/Arrays.fill([JJ)V -/
theorem b16 : mB 16 = cJ7_fill_d0a16 := rfl
theorem r16 : mR 16 = none := rfl
theorem p16 (a b : Nat) : phi 16 a ≤ phi 16 b := Nat.le_refl 0
theorem d16_0 : decode cJ7_fill_d0a16 0 = .ok (.iconst 0, 1) := by decide +kernel
theorem d16_1 : decode cJ7_fill_d0a16 1 = .ok (.istore_n 3, 1) := by decide +kernel
theorem d16_2 : decode cJ7_fill_d0a16 2 = .ok (.aload_n 0, 1) := by decide +kernel
theorem d16_3 : decode cJ7_fill_d0a16 3 = .ok (.arraylength, 1) := by decide +kernel
theorem d16_4 : decode cJ7_fill_d0a16 4 = .ok (.istore 4, 2) := by decide +kernel
theorem d16_6 : decode cJ7_fill_d0a16 6 = .ok (.iload_n 3, 1) := by decide +kernel
theorem d16_7 : decode cJ7_fill_d0a16 7 = .ok (.iload 4, 2) := by decide +kernel
theorem d16_9 : decode cJ7_fill_d0a16 9 = .ok (.if_icmp .ge 13, 3) := by decide +kernel
theorem d16_12 : decode cJ7_fill_d0a16 12 = .ok (.aload_n 0, 1) := by decide +kernel
theorem d16_13 : decode cJ7_fill_d0a16 13 = .ok (.iload_n 3, 1) := by decide +kernel
theorem d16_14 : decode cJ7_fill_d0a16 14 = .ok (.lload_n 1, 1) := by decide +kernel
theorem d16_15 : decode cJ7_fill_d0a16 15 = .ok (.lastore, 1) := by decide +kernel
theorem d16_16 : decode cJ7_fill_d0a16 16 = .ok (.iinc 3 1, 3) := by decide +kernel
theorem d16_19 : decode cJ7_fill_d0a16 19 = .ok (.goto (-13), 3) := by decide +kernel
theorem d16_22 : decode cJ7_fill_d0a16 22 = .ok (.return_, 1) := by decide +kernel
theorem v16_0 {w : PW} {Q : PO → PW → Prop} {p0 n0 : Nat} {y1 : Int64} (hs : Sh w) (ha_p0 : p0 < 182) (ht_p0 : tb p0 = (3, 1, [some n0])) (hn_p0 : Nat.blt n0 2147483648 = true) (h : pX 16 6 [some (.ref p0), some (.long y1), none, some (iv 0), some (iv ((n0 : Int)))] [] w Q) : pX 16 0 [some (.ref p0), some (.long y1), none, none, none] [] w Q :=
  w_f b16 d16_0 rfl rfl rfl <| w_f b16 d16_1 rfl rfl rfl <| w_f b16 d16_2 rfl rfl rfl <| w_lenL b16 d16_3 rfl hs ha_p0 ht_p0 <| w_f b16 d16_4 rfl rfl rfl <| h
theorem e16 {w : PW} {Q : PO → PW → Prop} {p0 n0 : Nat} {y1 : Int64} (hs : Sh w) (ha_p0 : p0 < 182) (ht_p0 : tb p0 = (3, 1, [some n0])) (hn_p0 : Nat.blt n0 2147483648 = true) (h : pX 16 6 [some (.ref p0), some (.long y1), none, some (iv 0), some (iv ((n0 : Int)))] [] w Q) : pC 16 [.ref p0, .long y1] w Q :=
  (pC_in (Nat.le_of_ble_eq_true rfl) rfl Q).mpr (v16_0 hs ha_p0 ht_p0 hn_p0 h)
theorem v16_6 {w : PW} {Q : PO → PW → Prop} {p0 n0 : Nat} {y1 : Int64} {x3 : Int} {x4 : Int} (hs : Sh w) (ha_p0 : p0 < 182) (ht_p0 : tb p0 = (3, 1, [some n0])) (hn_p0 : Nat.blt n0 2147483648 = true) (hx3 : bd x3) (hx4 : bd x4) (h : (x4 ≤ x3 → Q (.inl none) w) ∧ (x3 < x4 → (0 ≤ x3 ∧ x3 < n0) ∧ ∀ w2 : PW, w2 = sL w p0 x3.toNat y1 → pX 16 6 [some (.ref p0), some (.long y1), none, some (iv (x3 + 1)), some (iv x4)] [] w2 Q)) : pX 16 6 [some (.ref p0), some (.long y1), none, some (iv x3), some (iv x4)] [] w Q :=
  w_f b16 d16_6 rfl rfl rfl <| w_f b16 d16_7 rfl rfl rfl <| w_icge b16 d16_9 rfl rfl (p16 _ _) hx3 hx4 (fun c1 => w_rv b16 d16_22 r16 (h.1 c1)) (fun c1 => w_f b16 d16_12 rfl rfl rfl <| w_f b16 d16_13 rfl rfl rfl <| w_f b16 d16_14 rfl rfl rfl <| w_las b16 d16_15 rfl hs ha_p0 ht_p0 (bdix (n := n0) (h.2 c1).1 hn_p0) (h.2 c1).1 <| w_f b16 d16_16 rfl (pf_iinc rfl rfl) rfl <| w_j b16 d16_19 rfl (p16 _ _) <| ((h.2 c1).2 _ rfl))
/-! 18: PinBarrel$Play.begin()V -/
theorem b18 : mB 18 = cX3_begin := rfl
theorem r18 : mR 18 = none := rfl
theorem p18 (a b : Nat) : phi 18 a ≤ phi 18 b := Nat.le_refl 0
theorem d18_0 : decode cX3_begin 0 = .ok (.aload_n 0, 1) := by decide +kernel
theorem d18_1 : decode cX3_begin 1 = .ok (.iconst 0, 1) := by decide +kernel
theorem d18_2 : decode cX3_begin 2 = .ok (.putfield 9, 3) := by decide +kernel
theorem d18_5 : decode cX3_begin 5 = .ok (.aload_n 0, 1) := by decide +kernel
theorem d18_6 : decode cX3_begin 6 = .ok (.iconst 0, 1) := by decide +kernel
theorem d18_7 : decode cX3_begin 7 = .ok (.putfield 15, 3) := by decide +kernel
theorem d18_10 : decode cX3_begin 10 = .ok (.aload_n 0, 1) := by decide +kernel
theorem d18_11 : decode cX3_begin 11 = .ok (.iconst 0, 1) := by decide +kernel
theorem d18_12 : decode cX3_begin 12 = .ok (.putfield 18, 3) := by decide +kernel
theorem d18_15 : decode cX3_begin 15 = .ok (.aload_n 0, 1) := by decide +kernel
theorem d18_16 : decode cX3_begin 16 = .ok (.iconst 0, 1) := by decide +kernel
theorem d18_17 : decode cX3_begin 17 = .ok (.putfield 21, 3) := by decide +kernel
theorem d18_20 : decode cX3_begin 20 = .ok (.aload_n 0, 1) := by decide +kernel
theorem d18_21 : decode cX3_begin 21 = .ok (.iconst 0, 1) := by decide +kernel
theorem d18_22 : decode cX3_begin 22 = .ok (.putfield 24, 3) := by decide +kernel
theorem d18_25 : decode cX3_begin 25 = .ok (.iconst 0, 1) := by decide +kernel
theorem d18_26 : decode cX3_begin 26 = .ok (.istore_n 1, 1) := by decide +kernel
theorem d18_27 : decode cX3_begin 27 = .ok (.iload_n 1, 1) := by decide +kernel
theorem d18_28 : decode cX3_begin 28 = .ok (.bipush 12, 2) := by decide +kernel
theorem d18_30 : decode cX3_begin 30 = .ok (.if_icmp .ge 14, 3) := by decide +kernel
theorem d18_33 : decode cX3_begin 33 = .ok (.aload_n 0, 1) := by decide +kernel
theorem d18_34 : decode cX3_begin 34 = .ok (.iload_n 1, 1) := by decide +kernel
theorem d18_35 : decode cX3_begin 35 = .ok (.invokevirtual 52, 3) := by decide +kernel
theorem d18_38 : decode cX3_begin 38 = .ok (.iinc 1 1, 3) := by decide +kernel
theorem d18_41 : decode cX3_begin 41 = .ok (.goto (-14), 3) := by decide +kernel
theorem d18_44 : decode cX3_begin 44 = .ok (.return_, 1) := by decide +kernel
theorem v18_0 {w : PW} {Q : PO → PW → Prop} {b : Nat} (hs : Sh w) (hb : bx b) (h : ∀ w1 : PW, w1 = sI w (b + 8) 0 0 → ∀ w2 : PW, w2 = sI w1 (b + 8) 1 0 → ∀ w3 : PW, w3 = sI w2 (b + 8) 2 0 → ∀ w4 : PW, w4 = sI w3 (b + 8) 3 0 → ∀ w5 : PW, w5 = sI w4 (b + 8) 4 0 → pX 18 27 [some (.ref (b + 8)), some (iv 0)] [] w5 Q) : pX 18 0 [some (.ref (b + 8)), none] [] w Q :=
  w_f b18 d18_0 rfl rfl rfl <| w_f b18 d18_1 rfl rfl rfl <| w_pi b18 d18_2 rfl rfl hs (bxk hb 8 rfl) (tb8 hb) rfl rfl rfl <| w_f b18 d18_5 rfl rfl rfl <| w_f b18 d18_6 rfl rfl rfl <| w_pi b18 d18_7 rfl rfl (Sh_sI hs (slt_o (tb8 hb) rfl)) (bxk hb 8 rfl) (tb8 hb) rfl rfl rfl <| w_f b18 d18_10 rfl rfl rfl <| w_f b18 d18_11 rfl rfl rfl <| w_pi b18 d18_12 rfl rfl (Sh_sI (Sh_sI hs (slt_o (tb8 hb) rfl)) (slt_o (tb8 hb) rfl)) (bxk hb 8 rfl) (tb8 hb) rfl rfl rfl <| w_f b18 d18_15 rfl rfl rfl <| w_f b18 d18_16 rfl rfl rfl <| w_pi b18 d18_17 rfl rfl (Sh_sI (Sh_sI (Sh_sI hs (slt_o (tb8 hb) rfl)) (slt_o (tb8 hb) rfl)) (slt_o (tb8 hb) rfl)) (bxk hb 8 rfl) (tb8 hb) rfl rfl rfl <| w_f b18 d18_20 rfl rfl rfl <| w_f b18 d18_21 rfl rfl rfl <| w_pi b18 d18_22 rfl rfl (Sh_sI (Sh_sI (Sh_sI (Sh_sI hs (slt_o (tb8 hb) rfl)) (slt_o (tb8 hb) rfl)) (slt_o (tb8 hb) rfl)) (slt_o (tb8 hb) rfl)) (bxk hb 8 rfl) (tb8 hb) rfl rfl rfl <| w_f b18 d18_25 rfl rfl rfl <| w_f b18 d18_26 rfl rfl rfl <| (((((h _ rfl) _ rfl) _ rfl) _ rfl) _ rfl)
theorem e18 {w : PW} {Q : PO → PW → Prop} {b : Nat} (hs : Sh w) (hb : bx b) (h : ∀ w1 : PW, w1 = sI w (b + 8) 0 0 → ∀ w2 : PW, w2 = sI w1 (b + 8) 1 0 → ∀ w3 : PW, w3 = sI w2 (b + 8) 2 0 → ∀ w4 : PW, w4 = sI w3 (b + 8) 3 0 → ∀ w5 : PW, w5 = sI w4 (b + 8) 4 0 → pX 18 27 [some (.ref (b + 8)), some (iv 0)] [] w5 Q) : pC 18 [.ref (b + 8)] w Q :=
  (pC_in (Nat.le_of_ble_eq_true rfl) rfl Q).mpr (v18_0 hs hb h)
theorem v18_27 {w : PW} {Q : PO → PW → Prop} {b : Nat} {x1 : Int} (hs : Sh w) (hb : bx b) (hx1 : bd x1) (h : (12 ≤ x1 → Q (.inl none) w) ∧ (x1 < 12 → pC 17 [.ref (b + 8), iv x1] w (kV fun w2 => Sh w2 ∧ pX 18 27 [some (.ref (b + 8)), some (iv (x1 + 1))] [] w2 Q))) : pX 18 27 [some (.ref (b + 8)), some (iv x1)] [] w Q :=
  w_f b18 d18_27 rfl rfl rfl <| w_f b18 d18_28 rfl rfl rfl <| w_icge b18 d18_30 rfl rfl (p18 _ _) hx1 ⟨by decide, by decide⟩ (fun c1 => w_rv b18 d18_44 r18 (h.1 c1)) (fun c1 => w_f b18 d18_33 rfl rfl rfl <| w_f b18 d18_34 rfl rfl rfl <| w_c b18 d18_35 rfl (pcl_v (n := 1) rfl rfl rfl (by decide +kernel) (sh_isOb hs (bxk hb 8 rfl) (tb8 hb)) rfl rfl) rfl _ (hK_V fun w2 hkw2 => w_f b18 d18_38 rfl (pf_iinc rfl rfl) rfl <| w_j b18 d18_41 rfl (p18 _ _) <| hkw2.2) (h.2 c1))
/-! 19: PinBarrel$Box.begin(III)V -/
theorem b19 : mB 19 = cX0_begin := rfl
theorem r19 : mR 19 = none := rfl
theorem p19 (a b : Nat) : phi 19 a ≤ phi 19 b := Nat.le_refl 0
theorem d19_0 : decode cX0_begin 0 = .ok (.aload_n 0, 1) := by decide +kernel
theorem d19_1 : decode cX0_begin 1 = .ok (.iload_n 1, 1) := by decide +kernel
theorem d19_2 : decode cX0_begin 2 = .ok (.putfield 9, 3) := by decide +kernel
theorem d19_5 : decode cX0_begin 5 = .ok (.aload_n 0, 1) := by decide +kernel
theorem d19_6 : decode cX0_begin 6 = .ok (.iload_n 2, 1) := by decide +kernel
theorem d19_7 : decode cX0_begin 7 = .ok (.putfield 15, 3) := by decide +kernel
theorem d19_10 : decode cX0_begin 10 = .ok (.aload_n 0, 1) := by decide +kernel
theorem d19_11 : decode cX0_begin 11 = .ok (.iload_n 3, 1) := by decide +kernel
theorem d19_12 : decode cX0_begin 12 = .ok (.putfield 18, 3) := by decide +kernel
theorem d19_15 : decode cX0_begin 15 = .ok (.aload_n 0, 1) := by decide +kernel
theorem d19_16 : decode cX0_begin 16 = .ok (.iconst 1, 1) := by decide +kernel
theorem d19_17 : decode cX0_begin 17 = .ok (.putfield 21, 3) := by decide +kernel
theorem d19_20 : decode cX0_begin 20 = .ok (.aload_n 0, 1) := by decide +kernel
theorem d19_21 : decode cX0_begin 21 = .ok (.iconst 0, 1) := by decide +kernel
theorem d19_22 : decode cX0_begin 22 = .ok (.putfield 24, 3) := by decide +kernel
theorem d19_25 : decode cX0_begin 25 = .ok (.aload_n 0, 1) := by decide +kernel
theorem d19_26 : decode cX0_begin 26 = .ok (.getfield 34, 3) := by decide +kernel
theorem d19_29 : decode cX0_begin 29 = .ok (.lconst 0, 1) := by decide +kernel
theorem d19_30 : decode cX0_begin 30 = .ok (.invokestatic 65, 3) := by decide +kernel
theorem d19_33 : decode cX0_begin 33 = .ok (.aload_n 0, 1) := by decide +kernel
theorem d19_34 : decode cX0_begin 34 = .ok (.getfield 41, 3) := by decide +kernel
theorem d19_37 : decode cX0_begin 37 = .ok (.iconst 0, 1) := by decide +kernel
theorem d19_38 : decode cX0_begin 38 = .ok (.putfield 71, 3) := by decide +kernel
theorem d19_41 : decode cX0_begin 41 = .ok (.aload_n 0, 1) := by decide +kernel
theorem d19_42 : decode cX0_begin 42 = .ok (.getfield 48, 3) := by decide +kernel
theorem d19_45 : decode cX0_begin 45 = .ok (.invokevirtual 74, 3) := by decide +kernel
theorem d19_48 : decode cX0_begin 48 = .ok (.return_, 1) := by decide +kernel
theorem v19_0 {w : PW} {Q : PO → PW → Prop} {b : Nat} {x1 : Int} {x2 : Int} {x3 : Int} (hs : Sh w) (hb : bx b) (hx1 : bd x1) (hx2 : bd x2) (hx3 : bd x3) (h : ∀ w1 : PW, w1 = sI w b 0 x1 → ∀ w2 : PW, w2 = sI w1 b 1 x2 → ∀ w3 : PW, w3 = sI w2 b 2 x3 → ∀ w4 : PW, w4 = sI w3 b 3 1 → ∀ w5 : PW, w5 = sI w4 b 4 0 → pC 16 [.ref (b + 3), .long ((0 : Int64))] w5 (kV fun w6 => Sh w6 ∧ ∀ w8 : PW, w8 = sI w6 (b + 4) 0 0 → pC 18 [.ref (b + 8)] w8 (kV fun w9 => Sh w9 ∧ Q (.inl none) w9))) : pX 19 0 [some (.ref b), some (iv x1), some (iv x2), some (iv x3)] [] w Q :=
  w_f b19 d19_0 rfl rfl rfl <| w_f b19 d19_1 rfl rfl rfl <| w_pi b19 d19_2 rfl rfl hs (bx00 hb) (tb0 hb) rfl rfl rfl <| w_f b19 d19_5 rfl rfl rfl <| w_f b19 d19_6 rfl rfl rfl <| w_pi b19 d19_7 rfl rfl (Sh_sI hs (slt_o (tb0 hb) rfl)) (bx00 hb) (tb0 hb) rfl rfl rfl <| w_f b19 d19_10 rfl rfl rfl <| w_f b19 d19_11 rfl rfl rfl <| w_pi b19 d19_12 rfl rfl (Sh_sI (Sh_sI hs (slt_o (tb0 hb) rfl)) (slt_o (tb0 hb) rfl)) (bx00 hb) (tb0 hb) rfl rfl rfl <| w_f b19 d19_15 rfl rfl rfl <| w_f b19 d19_16 rfl rfl rfl <| w_pi b19 d19_17 rfl rfl (Sh_sI (Sh_sI (Sh_sI hs (slt_o (tb0 hb) rfl)) (slt_o (tb0 hb) rfl)) (slt_o (tb0 hb) rfl)) (bx00 hb) (tb0 hb) rfl rfl rfl <| w_f b19 d19_20 rfl rfl rfl <| w_f b19 d19_21 rfl rfl rfl <| w_pi b19 d19_22 rfl rfl (Sh_sI (Sh_sI (Sh_sI (Sh_sI hs (slt_o (tb0 hb) rfl)) (slt_o (tb0 hb) rfl)) (slt_o (tb0 hb) rfl)) (slt_o (tb0 hb) rfl)) (bx00 hb) (tb0 hb) rfl rfl rfl <| w_f b19 d19_25 rfl rfl rfl <| w_gr b19 d19_26 rfl rfl (Sh_sI (Sh_sI (Sh_sI (Sh_sI (Sh_sI hs (slt_o (tb0 hb) rfl)) (slt_o (tb0 hb) rfl)) (slt_o (tb0 hb) rfl)) (slt_o (tb0 hb) rfl)) (slt_o (tb0 hb) rfl)) (bx00 hb) (tb0 hb) rfl (bxr hb 3 rfl) <| w_f b19 d19_29 rfl rfl rfl <| w_c b19 d19_30 rfl (pcl_s1 (n := 2) rfl rfl rfl (by decide +kernel) rfl rfl) rfl _ (hK_V fun w6 hkw6 => w_f b19 d19_33 rfl rfl rfl <| w_gr b19 d19_34 rfl rfl hkw6.1 (bx00 hb) (tb0 hb) rfl (bxr hb 4 rfl) <| w_f b19 d19_37 rfl rfl rfl <| w_pi b19 d19_38 rfl rfl hkw6.1 (bxk hb 4 rfl) (tb4 hb) rfl rfl rfl <| w_f b19 d19_41 rfl rfl rfl <| w_gr b19 d19_42 rfl rfl (Sh_sI hkw6.1 (slt_o (tb4 hb) rfl)) (bx00 hb) (tb0 hb) rfl (bxr hb 8 rfl) <| w_c b19 d19_45 rfl (pcl_v (n := 0) rfl rfl rfl (by decide +kernel) (sh_isOb (Sh_sI hkw6.1 (slt_o (tb4 hb) rfl)) (bxk hb 8 rfl) (tb8 hb)) rfl rfl) rfl _ (hK_V fun w9 hkw9 => w_rv b19 d19_48 r19 hkw9.2) (hkw6.2 _ rfl)) (((((h _ rfl) _ rfl) _ rfl) _ rfl) _ rfl)
theorem e19 {w : PW} {Q : PO → PW → Prop} {b : Nat} {x1 : Int} {x2 : Int} {x3 : Int} (hs : Sh w) (hb : bx b) (hx1 : bd x1) (hx2 : bd x2) (hx3 : bd x3) (h : ∀ w1 : PW, w1 = sI w b 0 x1 → ∀ w2 : PW, w2 = sI w1 b 1 x2 → ∀ w3 : PW, w3 = sI w2 b 2 x3 → ∀ w4 : PW, w4 = sI w3 b 3 1 → ∀ w5 : PW, w5 = sI w4 b 4 0 → pC 16 [.ref (b + 3), .long ((0 : Int64))] w5 (kV fun w6 => Sh w6 ∧ ∀ w8 : PW, w8 = sI w6 (b + 4) 0 0 → pC 18 [.ref (b + 8)] w8 (kV fun w9 => Sh w9 ∧ Q (.inl none) w9))) : pC 19 [.ref b, iv x1, iv x2, iv x3] w Q :=
  (pC_in (Nat.le_of_ble_eq_true rfl) rfl Q).mpr (v19_0 hs hb hx1 hx2 hx3 h)
/-! 38: PinBarrel$History.forget()V -/
theorem b38 : mB 38 = cX1_forget := rfl
theorem r38 : mR 38 = none := rfl
theorem p38 (a b : Nat) : phi 38 a ≤ phi 38 b := Nat.le_refl 0
theorem d38_0 : decode cX1_forget 0 = .ok (.aload_n 0, 1) := by decide +kernel
theorem d38_1 : decode cX1_forget 1 = .ok (.iconst 0, 1) := by decide +kernel
theorem d38_2 : decode cX1_forget 2 = .ok (.putfield 21, 3) := by decide +kernel
theorem d38_5 : decode cX1_forget 5 = .ok (.return_, 1) := by decide +kernel
theorem v38_0 {w : PW} {Q : PO → PW → Prop}  (hs : Sh w)  (h : ∀ w1 : PW, w1 = sI w 27 2 0 → Q (.inl none) w1) : pX 38 0 [some (.ref 27)] [] w Q :=
  w_f b38 d38_0 rfl rfl rfl <| w_f b38 d38_1 rfl rfl rfl <| w_pi b38 d38_2 rfl rfl hs (tlt 27 rfl) tbC_27 rfl rfl rfl <| w_rv b38 d38_5 r38 (h _ rfl)
theorem e38 {w : PW} {Q : PO → PW → Prop}  (hs : Sh w)  (h : ∀ w1 : PW, w1 = sI w 27 2 0 → Q (.inl none) w1) : pC 38 [.ref 27] w Q :=
  (pC_in (Nat.le_of_ble_eq_true rfl) rfl Q).mpr (v38_0 hs  h)
/-! 55: PinBarrel$History.takeBack(LPinBarrel$Box;)V -/
theorem b55 : mB 55 = cX1_takeBack := rfl
theorem r55 : mR 55 = none := rfl
theorem p55 (a b : Nat) : phi 55 a ≤ phi 55 b := Nat.le_refl 0
theorem d55_0 : decode cX1_takeBack 0 = .ok (.aload_n 0, 1) := by decide +kernel
theorem d55_1 : decode cX1_takeBack 1 = .ok (.getfield 21, 3) := by decide +kernel
theorem d55_4 : decode cX1_takeBack 4 = .ok (.ifCond .le 34, 3) := by decide +kernel
theorem d55_7 : decode cX1_takeBack 7 = .ok (.aload_n 0, 1) := by decide +kernel
theorem d55_8 : decode cX1_takeBack 8 = .ok (.dup, 1) := by decide +kernel
theorem d55_9 : decode cX1_takeBack 9 = .ok (.getfield 21, 3) := by decide +kernel
theorem d55_12 : decode cX1_takeBack 12 = .ok (.iconst 1, 1) := by decide +kernel
theorem d55_13 : decode cX1_takeBack 13 = .ok (.isub, 1) := by decide +kernel
theorem d55_14 : decode cX1_takeBack 14 = .ok (.putfield 21, 3) := by decide +kernel
theorem d55_17 : decode cX1_takeBack 17 = .ok (.aload_n 1, 1) := by decide +kernel
theorem d55_18 : decode cX1_takeBack 18 = .ok (.aload_n 0, 1) := by decide +kernel
theorem d55_19 : decode cX1_takeBack 19 = .ok (.getfield 11, 3) := by decide +kernel
theorem d55_22 : decode cX1_takeBack 22 = .ok (.aload_n 0, 1) := by decide +kernel
theorem d55_23 : decode cX1_takeBack 23 = .ok (.getfield 17, 3) := by decide +kernel
theorem d55_26 : decode cX1_takeBack 26 = .ok (.aload_n 0, 1) := by decide +kernel
theorem d55_27 : decode cX1_takeBack 27 = .ok (.getfield 21, 3) := by decide +kernel
theorem d55_30 : decode cX1_takeBack 30 = .ok (.iadd, 1) := by decide +kernel
theorem d55_31 : decode cX1_takeBack 31 = .ok (.bipush 8, 2) := by decide +kernel
theorem d55_33 : decode cX1_takeBack 33 = .ok (.irem, 1) := by decide +kernel
theorem d55_34 : decode cX1_takeBack 34 = .ok (.aaload, 1) := by decide +kernel
theorem d55_35 : decode cX1_takeBack 35 = .ok (.invokevirtual 25, 3) := by decide +kernel
theorem d55_38 : decode cX1_takeBack 38 = .ok (.return_, 1) := by decide +kernel
theorem v55_0 {w : PW} {Q : PO → PW → Prop} {c : Nat} (hs : Sh w) (hc : bx c) (h : ((gI w 27 2) ≤ 0 → Q (.inl none) w) ∧ (0 < (gI w 27 2) → ∀ w2 : PW, w2 = sI w 27 2 ((gI w 27 2) - 1) → (bd ((gI w2 27 1) + (gI w2 27 2))) ∧ (0 ≤ (((gI w2 27 1) + (gI w2 27 2)).tmod 8) ∧ (((gI w2 27 1) + (gI w2 27 2)).tmod 8) < 8) ∧ pC 37 [.ref c, .ref (29 + 13 * (((gI w2 27 1) + (gI w2 27 2)).tmod 8).toNat)] w2 (kV fun w3 => Sh w3 ∧ Q (.inl none) w3))) : pX 55 0 [some (.ref 27), some (.ref c)] [] w Q :=
  w_f b55 d55_0 rfl rfl rfl <| w_gi b55 d55_1 rfl rfl hs (tlt 27 rfl) tbC_27 rfl <| w_ifle b55 d55_4 rfl rfl (p55 _ _) (bd_gI _ _ _) (fun c1 => w_rv b55 d55_38 r55 (h.1 c1)) (fun c1 => w_f b55 d55_7 rfl rfl rfl <| w_f b55 d55_8 rfl rfl rfl <| w_gi b55 d55_9 rfl rfl hs (tlt 27 rfl) tbC_27 rfl <| w_f b55 d55_12 rfl rfl rfl <| w_f b55 d55_13 rfl (pf_isub (gI w 27 2) 1) rfl <| w_pi b55 d55_14 rfl rfl hs (tlt 27 rfl) tbC_27 rfl rfl rfl <| w_f b55 d55_17 rfl rfl rfl <| w_f b55 d55_18 rfl rfl rfl <| w_gr b55 d55_19 rfl rfl (Sh_sI hs (slt_o tbC_27 rfl)) (tlt 27 rfl) tbC_27 rfl (by decide) <| w_f b55 d55_22 rfl rfl rfl <| w_gi b55 d55_23 rfl rfl (Sh_sI hs (slt_o tbC_27 rfl)) (tlt 27 rfl) tbC_27 rfl <| w_f b55 d55_26 rfl rfl rfl <| w_gi b55 d55_27 rfl rfl (Sh_sI hs (slt_o tbC_27 rfl)) (tlt 27 rfl) tbC_27 rfl <| w_f b55 d55_30 rfl (pf_iadd _ _) rfl <| w_f b55 d55_31 rfl rfl rfl <| w_f b55 d55_33 rfl (pf_irem ((h.2 c1) _ rfl).1 ⟨by decide, by decide⟩) rfl <| w_qal b55 d55_34 rfl (Sh_sI hs (slt_o tbC_27 rfl)) (tlt 28 rfl) tbC_28 (bdix (n := 8) ((h.2 c1) _ rfl).2.1 rfl) ((h.2 c1) _ rfl).2.1.1 (qlH ((h.2 c1) _ rfl).2.1) <| w_c b55 d55_35 rfl (pcl_v (n := 1) rfl rfl rfl (by decide +kernel) (sh_isOb (Sh_sI hs (slt_o tbC_27 rfl)) (bx00 hc) (tb0 hc)) rfl rfl) rfl _ (hK_V fun w3 hkw3 => w_rv b55 d55_38 r55 hkw3.2) ((h.2 c1) _ rfl).2.2)
theorem e55 {w : PW} {Q : PO → PW → Prop} {c : Nat} (hs : Sh w) (hc : bx c) (h : ((gI w 27 2) ≤ 0 → Q (.inl none) w) ∧ (0 < (gI w 27 2) → ∀ w2 : PW, w2 = sI w 27 2 ((gI w 27 2) - 1) → (bd ((gI w2 27 1) + (gI w2 27 2))) ∧ (0 ≤ (((gI w2 27 1) + (gI w2 27 2)).tmod 8) ∧ (((gI w2 27 1) + (gI w2 27 2)).tmod 8) < 8) ∧ pC 37 [.ref c, .ref (29 + 13 * (((gI w2 27 1) + (gI w2 27 2)).tmod 8).toNat)] w2 (kV fun w3 => Sh w3 ∧ Q (.inl none) w3))) : pC 55 [.ref 27, .ref c] w Q :=
  (pC_in (Nat.le_of_ble_eq_true rfl) rfl Q).mpr (v55_0 hs hc h)
/-! 164: PinBarrel$History.keep(LPinBarrel$Box;)V -/
theorem b164 : mB 164 = cX1_keep := rfl
theorem r164 : mR 164 = none := rfl
theorem p164 (a b : Nat) : phi 164 a ≤ phi 164 b := Nat.le_refl 0
theorem d164_0 : decode cX1_keep 0 = .ok (.aload_n 0, 1) := by decide +kernel
theorem d164_1 : decode cX1_keep 1 = .ok (.getfield 21, 3) := by decide +kernel
theorem d164_4 : decode cX1_keep 4 = .ok (.bipush 8, 2) := by decide +kernel
theorem d164_6 : decode cX1_keep 6 = .ok (.if_icmp .ne 26, 3) := by decide +kernel
theorem d164_9 : decode cX1_keep 9 = .ok (.aload_n 0, 1) := by decide +kernel
theorem d164_10 : decode cX1_keep 10 = .ok (.aload_n 0, 1) := by decide +kernel
theorem d164_11 : decode cX1_keep 11 = .ok (.getfield 17, 3) := by decide +kernel
theorem d164_14 : decode cX1_keep 14 = .ok (.iconst 1, 1) := by decide +kernel
theorem d164_15 : decode cX1_keep 15 = .ok (.iadd, 1) := by decide +kernel
theorem d164_16 : decode cX1_keep 16 = .ok (.bipush 8, 2) := by decide +kernel
theorem d164_18 : decode cX1_keep 18 = .ok (.irem, 1) := by decide +kernel
theorem d164_19 : decode cX1_keep 19 = .ok (.putfield 17, 3) := by decide +kernel
theorem d164_22 : decode cX1_keep 22 = .ok (.aload_n 0, 1) := by decide +kernel
theorem d164_23 : decode cX1_keep 23 = .ok (.dup, 1) := by decide +kernel
theorem d164_24 : decode cX1_keep 24 = .ok (.getfield 21, 3) := by decide +kernel
theorem d164_27 : decode cX1_keep 27 = .ok (.iconst 1, 1) := by decide +kernel
theorem d164_28 : decode cX1_keep 28 = .ok (.isub, 1) := by decide +kernel
theorem d164_29 : decode cX1_keep 29 = .ok (.putfield 21, 3) := by decide +kernel
theorem d164_32 : decode cX1_keep 32 = .ok (.aload_n 0, 1) := by decide +kernel
theorem d164_33 : decode cX1_keep 33 = .ok (.getfield 11, 3) := by decide +kernel
theorem d164_36 : decode cX1_keep 36 = .ok (.aload_n 0, 1) := by decide +kernel
theorem d164_37 : decode cX1_keep 37 = .ok (.getfield 17, 3) := by decide +kernel
theorem d164_40 : decode cX1_keep 40 = .ok (.aload_n 0, 1) := by decide +kernel
theorem d164_41 : decode cX1_keep 41 = .ok (.getfield 21, 3) := by decide +kernel
theorem d164_44 : decode cX1_keep 44 = .ok (.iadd, 1) := by decide +kernel
theorem d164_45 : decode cX1_keep 45 = .ok (.bipush 8, 2) := by decide +kernel
theorem d164_47 : decode cX1_keep 47 = .ok (.irem, 1) := by decide +kernel
theorem d164_48 : decode cX1_keep 48 = .ok (.aaload, 1) := by decide +kernel
theorem d164_49 : decode cX1_keep 49 = .ok (.aload_n 1, 1) := by decide +kernel
theorem d164_50 : decode cX1_keep 50 = .ok (.invokevirtual 25, 3) := by decide +kernel
theorem d164_53 : decode cX1_keep 53 = .ok (.aload_n 0, 1) := by decide +kernel
theorem d164_54 : decode cX1_keep 54 = .ok (.dup, 1) := by decide +kernel
theorem d164_55 : decode cX1_keep 55 = .ok (.getfield 21, 3) := by decide +kernel
theorem d164_58 : decode cX1_keep 58 = .ok (.iconst 1, 1) := by decide +kernel
theorem d164_59 : decode cX1_keep 59 = .ok (.iadd, 1) := by decide +kernel
theorem d164_60 : decode cX1_keep 60 = .ok (.putfield 21, 3) := by decide +kernel
theorem d164_63 : decode cX1_keep 63 = .ok (.return_, 1) := by decide +kernel
theorem v164_0 {w : PW} {Q : PO → PW → Prop} {c : Nat} (hs : Sh w) (hc : bx c) (h : ((gI w 27 2) ≠ 8 → (bd ((gI w 27 1) + (gI w 27 2))) ∧ (0 ≤ (((gI w 27 1) + (gI w 27 2)).tmod 8) ∧ (((gI w 27 1) + (gI w 27 2)).tmod 8) < 8) ∧ pC 37 [.ref (29 + 13 * (((gI w 27 1) + (gI w 27 2)).tmod 8).toNat), .ref c] w (kV fun w2 => Sh w2 ∧ ∀ w4 : PW, w4 = sI w2 27 2 ((gI w2 27 2) + 1) → Q (.inl none) w4)) ∧ ((gI w 27 2) = 8 → (bd ((gI w 27 1) + 1)) ∧ ∀ w5 : PW, w5 = sI w 27 1 (((gI w 27 1) + 1).tmod 8) → ∀ w6 : PW, w6 = sI w5 27 2 ((gI w5 27 2) - 1) → (bd ((gI w6 27 1) + (gI w6 27 2))) ∧ (0 ≤ (((gI w6 27 1) + (gI w6 27 2)).tmod 8) ∧ (((gI w6 27 1) + (gI w6 27 2)).tmod 8) < 8) ∧ pC 37 [.ref (29 + 13 * (((gI w6 27 1) + (gI w6 27 2)).tmod 8).toNat), .ref c] w6 (kV fun w7 => Sh w7 ∧ ∀ w9 : PW, w9 = sI w7 27 2 ((gI w7 27 2) + 1) → Q (.inl none) w9))) : pX 164 0 [some (.ref 27), some (.ref c)] [] w Q :=
  w_f b164 d164_0 rfl rfl rfl <| w_gi b164 d164_1 rfl rfl hs (tlt 27 rfl) tbC_27 rfl <| w_f b164 d164_4 rfl rfl rfl <| w_icne b164 d164_6 rfl rfl (p164 _ _) (bd_gI _ _ _) ⟨by decide, by decide⟩ (fun c1 => w_f b164 d164_32 rfl rfl rfl <| w_gr b164 d164_33 rfl rfl hs (tlt 27 rfl) tbC_27 rfl (by decide) <| w_f b164 d164_36 rfl rfl rfl <| w_gi b164 d164_37 rfl rfl hs (tlt 27 rfl) tbC_27 rfl <| w_f b164 d164_40 rfl rfl rfl <| w_gi b164 d164_41 rfl rfl hs (tlt 27 rfl) tbC_27 rfl <| w_f b164 d164_44 rfl (pf_iadd (gI w 27 1) (gI w 27 2)) rfl <| w_f b164 d164_45 rfl rfl rfl <| w_f b164 d164_47 rfl (pf_irem (h.1 c1).1 ⟨by decide, by decide⟩) rfl <| w_qal b164 d164_48 rfl hs (tlt 28 rfl) tbC_28 (bdix (n := 8) (h.1 c1).2.1 rfl) (h.1 c1).2.1.1 (qlH (h.1 c1).2.1) <| w_f b164 d164_49 rfl rfl rfl <| w_c b164 d164_50 rfl (pcl_v (n := 1) rfl rfl rfl (by decide +kernel) (sh_isOb hs (bx00 (bxH (h.1 c1).2.1)) (tb0 (bxH (h.1 c1).2.1))) rfl rfl) rfl _ (hK_V fun w2 hkw2 => w_f b164 d164_53 rfl rfl rfl <| w_f b164 d164_54 rfl rfl rfl <| w_gi b164 d164_55 rfl rfl hkw2.1 (tlt 27 rfl) tbC_27 rfl <| w_f b164 d164_58 rfl rfl rfl <| w_f b164 d164_59 rfl (pf_iadd _ 1) rfl <| w_pi b164 d164_60 rfl rfl hkw2.1 (tlt 27 rfl) tbC_27 rfl rfl rfl <| w_rv b164 d164_63 r164 (hkw2.2 _ rfl)) (h.1 c1).2.2) (fun c1 => w_f b164 d164_9 rfl rfl rfl <| w_f b164 d164_10 rfl rfl rfl <| w_gi b164 d164_11 rfl rfl hs (tlt 27 rfl) tbC_27 rfl <| w_f b164 d164_14 rfl rfl rfl <| w_f b164 d164_15 rfl (pf_iadd (gI w 27 1) 1) rfl <| w_f b164 d164_16 rfl rfl rfl <| w_f b164 d164_18 rfl (pf_irem (h.2 c1).1 ⟨by decide, by decide⟩) rfl <| w_pi b164 d164_19 rfl rfl hs (tlt 27 rfl) tbC_27 rfl rfl rfl <| w_f b164 d164_22 rfl rfl rfl <| w_f b164 d164_23 rfl rfl rfl <| w_gi b164 d164_24 rfl rfl (Sh_sI hs (slt_o tbC_27 rfl)) (tlt 27 rfl) tbC_27 rfl <| w_f b164 d164_27 rfl rfl rfl <| w_f b164 d164_28 rfl (pf_isub _ 1) rfl <| w_pi b164 d164_29 rfl rfl (Sh_sI hs (slt_o tbC_27 rfl)) (tlt 27 rfl) tbC_27 rfl rfl rfl <| w_f b164 d164_32 rfl rfl rfl <| w_gr b164 d164_33 rfl rfl (Sh_sI (Sh_sI hs (slt_o tbC_27 rfl)) (slt_o tbC_27 rfl)) (tlt 27 rfl) tbC_27 rfl (by decide) <| w_f b164 d164_36 rfl rfl rfl <| w_gi b164 d164_37 rfl rfl (Sh_sI (Sh_sI hs (slt_o tbC_27 rfl)) (slt_o tbC_27 rfl)) (tlt 27 rfl) tbC_27 rfl <| w_f b164 d164_40 rfl rfl rfl <| w_gi b164 d164_41 rfl rfl (Sh_sI (Sh_sI hs (slt_o tbC_27 rfl)) (slt_o tbC_27 rfl)) (tlt 27 rfl) tbC_27 rfl <| w_f b164 d164_44 rfl (pf_iadd _ _) rfl <| w_f b164 d164_45 rfl rfl rfl <| w_f b164 d164_47 rfl (pf_irem (((h.2 c1).2 _ rfl) _ rfl).1 ⟨by decide, by decide⟩) rfl <| w_qal b164 d164_48 rfl (Sh_sI (Sh_sI hs (slt_o tbC_27 rfl)) (slt_o tbC_27 rfl)) (tlt 28 rfl) tbC_28 (bdix (n := 8) (((h.2 c1).2 _ rfl) _ rfl).2.1 rfl) (((h.2 c1).2 _ rfl) _ rfl).2.1.1 (qlH (((h.2 c1).2 _ rfl) _ rfl).2.1) <| w_f b164 d164_49 rfl rfl rfl <| w_c b164 d164_50 rfl (pcl_v (n := 1) rfl rfl rfl (by decide +kernel) (sh_isOb (Sh_sI (Sh_sI hs (slt_o tbC_27 rfl)) (slt_o tbC_27 rfl)) (bx00 (bxH (((h.2 c1).2 _ rfl) _ rfl).2.1)) (tb0 (bxH (((h.2 c1).2 _ rfl) _ rfl).2.1))) rfl rfl) rfl _ (hK_V fun w7 hkw7 => w_f b164 d164_53 rfl rfl rfl <| w_f b164 d164_54 rfl rfl rfl <| w_gi b164 d164_55 rfl rfl hkw7.1 (tlt 27 rfl) tbC_27 rfl <| w_f b164 d164_58 rfl rfl rfl <| w_f b164 d164_59 rfl (pf_iadd _ 1) rfl <| w_pi b164 d164_60 rfl rfl hkw7.1 (tlt 27 rfl) tbC_27 rfl rfl rfl <| w_rv b164 d164_63 r164 (hkw7.2 _ rfl)) (((h.2 c1).2 _ rfl) _ rfl).2.2)
theorem e164 {w : PW} {Q : PO → PW → Prop} {c : Nat} (hs : Sh w) (hc : bx c) (h : ((gI w 27 2) ≠ 8 → (bd ((gI w 27 1) + (gI w 27 2))) ∧ (0 ≤ (((gI w 27 1) + (gI w 27 2)).tmod 8) ∧ (((gI w 27 1) + (gI w 27 2)).tmod 8) < 8) ∧ pC 37 [.ref (29 + 13 * (((gI w 27 1) + (gI w 27 2)).tmod 8).toNat), .ref c] w (kV fun w2 => Sh w2 ∧ ∀ w4 : PW, w4 = sI w2 27 2 ((gI w2 27 2) + 1) → Q (.inl none) w4)) ∧ ((gI w 27 2) = 8 → (bd ((gI w 27 1) + 1)) ∧ ∀ w5 : PW, w5 = sI w 27 1 (((gI w 27 1) + 1).tmod 8) → ∀ w6 : PW, w6 = sI w5 27 2 ((gI w5 27 2) - 1) → (bd ((gI w6 27 1) + (gI w6 27 2))) ∧ (0 ≤ (((gI w6 27 1) + (gI w6 27 2)).tmod 8) ∧ (((gI w6 27 1) + (gI w6 27 2)).tmod 8) < 8) ∧ pC 37 [.ref (29 + 13 * (((gI w6 27 1) + (gI w6 27 2)).tmod 8).toNat), .ref c] w6 (kV fun w7 => Sh w7 ∧ ∀ w9 : PW, w9 = sI w7 27 2 ((gI w7 27 2) + 1) → Q (.inl none) w9))) : pC 164 [.ref 27, .ref c] w Q :=
  (pC_in (Nat.le_of_ble_eq_true rfl) rfl Q).mpr (v164_0 hs hc h)
theorem c17 {w : PW} {Q : PO → PW → Prop} {b t : Nat} (hs : Sh w) (hb : bx b) (ht : t < 12) (h : ∀ w2, Sh w2 → (∀ c, ¬ (c = b + 9 ∨ c = b + 10 ∨ c = b + 11) → w2.2.2 c = w.2.2 c) → (∀ j, gI w2 (b + 9) j = if j = t then 0 else gI w (b + 9) j) → (∀ j, gI w2 (b + 10) j = if j = t then 0 else gI w (b + 10) j) → (∀ j, gI w2 (b + 11) j = if j = t then -1 else gI w (b + 11) j) → Q (.inl none) w2) : pC 17 [.ref (b + 8), iv (t : Nat)] w Q := by
  have a0 := bx_lt hb
  have ht2 : 0 ≤ (t : Int) ∧ (t : Int) < 12 := ⟨by omega, by omega⟩
  refine e17 hs hb (bdk (by omega)) ⟨ht2, fun w1 e1 => ⟨ht2, fun w2 e2 => ⟨ht2, fun w3 e3 => ?_⟩⟩⟩
  obtain ⟨s1, g1, -, k1⟩ := stI e1 hs (by omega) (slt_a (tb9 hb)) bd0
  obtain ⟨s2, g2, -, k2⟩ := stI e2 s1 (by omega) (slt_a (tb10 hb)) bd0
  obtain ⟨s3, g3, -, k3⟩ := stI e3 s2 (by omega) (slt_a (tb11 hb)) ⟨by decide, by decide⟩
  rw [Int.toNat_natCast] at g1 g2 g3
  refine h w3 s3 (fun c hc => by rw [k3 c (by omega), k2 c (by omega), k1 c (by omega)]) (fun j => ?_) (fun j => ?_) (fun j => ?_)
  · rw [g3, if_neg (by omega), g2, if_neg (by omega), g1]
    by_cases q : j = t
    · rw [if_pos ⟨rfl, q⟩, if_pos q]
    · rw [if_neg (fun z => q z.2), if_neg q]
  · rw [g3, if_neg (by omega), g2]
    by_cases q : j = t
    · rw [if_pos ⟨rfl, q⟩, if_pos q]
    · rw [if_neg (fun z => q z.2), if_neg q, g1, if_neg (by omega)]
  · rw [g3]
    by_cases q : j = t
    · rw [if_pos ⟨rfl, q⟩, if_pos q]
    · rw [if_neg (fun z => q z.2), if_neg q, g2, if_neg (by omega), g1, if_neg (by omega)]
theorem rTr_tooth {m : Row} {p r : Int} (h : RowOK m) (h12 : m 4 < 12) {j s : Nat} (hs : s < 64) : rTr (rTooth m p r) j s = rTr m j s := by
  have h1 := h.u
  have h4 := h.t
  have h0 := h.s
  unfold rTr
  rw [rTooth_lo (show 1 < 11 by decide) (by decide), rTooth_lo (show 0 < 11 by decide) (by decide), rTooth_4]
  have e : rPin (rTooth m p r) (j % (m 1).toNat) s (j / (m 1).toNat) = rPin m (j % (m 1).toNat) s (j / (m 1).toNat) := by
    unfold rPin
    rw [rTooth_hi h12 (by omega)]
  rw [e]
  by_cases q : j < (m 1).toNat * (m 4).toNat
  · have q2 : j < (m 1).toNat * (m 4 + 1).toNat := Nat.lt_of_lt_of_le q (Nat.mul_le_mul_left _ (by omega))
    rw [decide_eq_true q, decide_eq_true q2]
  · rw [decide_eq_false q, Bool.false_and]
    by_cases q2 : j < (m 1).toNat * (m 4 + 1).toNat
    · by_cases q3 : s < (m 0).toNat
      · have a1 : j % (m 1).toNat < (m 1).toNat := Nat.mod_lt _ (by omega)
        have a2 : ¬ j / (m 1).toNat < (m 4).toNat := by rw [Nat.div_lt_iff_lt_mul (by omega), Nat.mul_comm]; exact q
        have a3 : j / (m 1).toNat < (m 4 + 1).toNat := by rw [Nat.div_lt_iff_lt_mul (by omega), Nat.mul_comm]; exact q2
        have := h.P (u := j % (m 1).toNat) (s := s) (by omega) (by omega)
        cases hp : rPin m (j % (m 1).toNat) s (j / (m 1).toNat) with
        | true => have := this.2 _ (by omega) hp; omega
        | false => rw [Bool.and_false, Bool.and_false]
      · rw [decide_eq_false q3, Bool.false_and, Bool.and_false]
    · rw [decide_eq_false q2, Bool.false_and]
theorem c24 {w : PW} {Q : PO → PW → Prop} {b : Nat} {m : Row} {p r : Int} (hs : Sh w) (hB : BR w b m) (h12 : m 4 < 12) (hp : 0 ≤ p ∧ p < 24) (hr : 1 ≤ r ∧ r ≤ 12) (h : ∀ w2, Sh w2 → BR w2 b (rTooth m p r) → OB b w w2 → Q (.inl none) w2) : pC 24 [.ref b, iv p, iv r] w Q := by
  have hb := hB.bx
  have a0 := bx_lt hb
  have h4 := hB.ok.t
  have h0 := hB.ok.s
  have hb4 : 0 ≤ m 4 ∧ m 4 < 12 := ⟨h4.1, h12⟩
  refine e24 hs hb ⟨by omega, by omega⟩ ⟨by omega, by omega⟩ ?_
  rw [hB.t]
  refine ⟨fun q => by omega, fun _ => ⟨hb4, fun w2 e2 => ?_⟩⟩
  obtain ⟨s2, g2, -, k2⟩ := stI e2 hs (by omega) (slt_a (tb1 hb)) ⟨by omega, by omega⟩
  rw [g2, if_neg (by omega), hB.t]
  refine ⟨hb4, fun w3 e3 => ?_⟩
  obtain ⟨s3, g3, -, k3⟩ := stI e3 s2 (by omega) (slt_a (tb2 hb)) ⟨by omega, by omega⟩
  rw [g3, if_neg (by omega), g2, if_neg (by omega), hB.t, show m 4 = (((m 4).toNat : Nat) : Int) from by omega]
  refine c17 s3 hb (by omega) (fun w4 s4 k4 p9 p10 p11 => ⟨s4, fun w6 e6 => ?_⟩)
  rw [gI_cell (k4 b (by omega)), g3, if_neg (by omega), g2, if_neg (by omega), hB.t] at e6
  obtain ⟨s6, g6, -, k6⟩ := stI e6 s4 (by omega) (slt_o (tb0 hb) rfl) ⟨by omega, by omega⟩
  have hO : ∀ c, ¬ (c = b ∨ c = b + 1 ∨ c = b + 2 ∨ c = b + 9 ∨ c = b + 10 ∨ c = b + 11) → w6.2.2 c = w.2.2 c := fun c hc => by rw [k6 c (by omega), k4 c (by omega), k3 c (by omega), k2 c (by omega)]
  have vv : ∀ a k, ¬ (a = b ∨ a = b + 1 ∨ a = b + 2 ∨ a = b + 9 ∨ a = b + 10 ∨ a = b + 11) → gI w6 a k = gI w a k := fun a k ha => gI_cell (hO a ha) k
  have v0 : ∀ k, gI w6 b k = if k = 4 then m 4 + 1 else gI w b k := fun k => by
    rw [g6]
    by_cases q : k = 4
    · rw [if_pos ⟨rfl, q⟩, if_pos q]
    · rw [if_neg (fun z => q z.2), if_neg q, gI_cell (k4 b (by omega)), g3, if_neg (by omega), g2, if_neg (by omega)]
  have v1 : ∀ k, gI w6 (b + 1) k = if k = (m 4).toNat then p else gI w (b + 1) k := fun k => by
    rw [g6, if_neg (by omega), gI_cell (k4 (b + 1) (by omega)), g3, if_neg (by omega), g2]
    by_cases q : k = (m 4).toNat
    · rw [if_pos ⟨rfl, q⟩, if_pos q]
    · rw [if_neg (fun z => q z.2), if_neg q]
  have v2 : ∀ k, gI w6 (b + 2) k = if k = (m 4).toNat then r else gI w (b + 2) k := fun k => by
    rw [g6, if_neg (by omega), gI_cell (k4 (b + 2) (by omega)), g3]
    by_cases q : k = (m 4).toNat
    · rw [if_pos ⟨rfl, q⟩, if_pos q]
    · rw [if_neg (fun z => q z.2), if_neg q, g2, if_neg (by omega)]
  have o3 : ∀ a k, ¬ (a = b + 1 ∨ a = b + 2) → gI w3 a k = gI w a k := fun a k ha => by rw [g3, if_neg (by omega), g2, if_neg (by omega)]
  have v9 : ∀ k, gI w6 (b + 9) k = if k = (m 4).toNat then 0 else gI w (b + 9) k := fun k => by rw [g6, if_neg (by omega), p9, o3 _ _ (by omega)]
  have v10 : ∀ k, gI w6 (b + 10) k = if k = (m 4).toNat then 0 else gI w (b + 10) k := fun k => by rw [g6, if_neg (by omega), p10, o3 _ _ (by omega)]
  have v11 : ∀ k, gI w6 (b + 11) k = if k = (m 4).toNat then -1 else gI w (b + 11) k := fun k => by rw [g6, if_neg (by omega), p11, o3 _ _ (by omega)]
  have l : ∀ j, j < 11 → j ≠ 4 → rTooth m p r j = m j := fun j hj h5 => rTooth_lo hj h5
  refine h w6 s6 ⟨hb, rTooth_ok hB.ok h12 hp hr, ?_, fun i hi => ?_, ?_, fun i hi => ?_, ?_, fun k hk1 hk2 => ?_, fun j s hj hs => ?_⟩ (fun c hc => hO c (by omega))
  · rw [l 0 (by decide) (by decide), l 1 (by decide) (by decide), l 2 (by decide) (by decide), l 3 (by decide) (by decide), rTooth_4, v0, v0, v0, v0, v0]
    exact ⟨hB.s, hB.u, hB.g, hB.v, rfl⟩
  · rw [rTooth_4] at hi
    rw [v1, v2, v9, v10, v11]
    by_cases q : i = (m 4).toNat
    · obtain ⟨n0, n1, n2, n3, n4⟩ := rTooth_new (m := m) (p := p) (r := r)
      rw [if_pos q, if_pos q, if_pos q, if_pos q, if_pos q, q, n0, n1, n2, n3, n4]
      exact ⟨rfl, rfl, rfl, rfl, rfl⟩
    · rw [if_neg q, if_neg q, if_neg q, if_neg q, if_neg q, rTooth_T (by omega) (by decide), rTooth_T (by omega) (by decide), rTooth_T (by omega) (by decide), rTooth_T (by omega) (by decide), rTooth_T (by omega) (by decide)]
      exact hB.T (by omega)
  · rw [l 5 (by decide) (by decide), vv _ _ (by omega)]
    exact hB.n
  · rw [l 5 (by decide) (by decide)] at hi
    have h5 := hB.ok.n
    have e : ∀ k, k < 3 → rN (rTooth m p r) i k = rN m i k := fun k _ => rTooth_hi h12 (by omega)
    rw [e 0 (by decide), e 1 (by decide), e 2 (by decide), vv _ _ (by omega), vv _ _ (by omega), vv _ _ (by omega)]
    exact hB.N hi
  · rw [l 6 (by decide) (by decide), l 7 (by decide) (by decide), l 8 (by decide) (by decide), l 9 (by decide) (by decide), l 10 (by decide) (by decide), vv _ _ (by omega), vv _ _ (by omega), vv _ _ (by omega), vv _ _ (by omega), vv _ _ (by omega)]
    exact ⟨hB.pu, hB.ps, hB.pt, hB.pp, hB.pb⟩
  · rw [l 9 (by decide) (by decide)] at hk2
    rw [vv _ _ (by omega), rTooth_hi h12 (by omega)]
    exact hB.M hk1 hk2
  · rw [gL_cell (hO (b + 3) (by omega)), hB.P hj hs, rTr_tooth hB.ok h12 hs]
theorem l16_6 {w : PW} {Q : PO → PW → Prop} {b : Nat} (hs : Sh w) (hb : bx b) (h : ∀ w2, Sh w2 → (∀ c, c ≠ b + 3 → w2.2.2 c = w.2.2 c) → (∀ j, j < 36 → gL w2 (b + 3) j = 0) → Q (.inl none) w2) : ∀ k i : Nat, i + k = 36 → ∀ w1, Sh w1 → (∀ c, c ≠ b + 3 → w1.2.2 c = w.2.2 c) → (∀ j, j < i → gL w1 (b + 3) j = 0) → pX 16 6 [some (.ref (b + 3)), some (.long 0), none, some (iv (i : Nat)), some (iv ((36 : Nat) : Int))] [] w1 Q := by
  have a0 := bx_lt hb
  intro k
  induction k with
  | zero =>
    intro i hi w1 s1 hO hV
    refine v16_6 s1 (by omega) (tb3 hb) rfl (bdk (by omega)) (bdk (by omega)) ⟨fun _ => h w1 s1 hO (fun j hj => hV j (by omega)), fun q => by omega⟩
  | succ k ih =>
    intro i hi w1 s1 hO hV
    refine v16_6 s1 (by omega) (tb3 hb) rfl (bdk (by omega)) (bdk (by omega)) ⟨fun q => by omega, fun _ => ⟨⟨by omega, by omega⟩, fun w2 e2 => ?_⟩⟩
    obtain ⟨s2, g2, -, k2⟩ := stL e2 s1 (by omega) (tb3 hb)
    refine ih (i + 1) (by omega) w2 s2 (fun c hc => by rw [k2 c hc, hO c hc]) (fun j hj => ?_)
    rw [g2, Int.toNat_natCast]
    by_cases q : j = i
    · rw [if_pos ⟨rfl, q⟩]
    · rw [if_neg (fun z => q z.2)]
      exact hV j (by omega)
theorem l18_27 {w : PW} {Q : PO → PW → Prop} {b : Nat} (hs : Sh w) (hb : bx b) (h : ∀ w2, Sh w2 → (∀ c, ¬ (c = b + 9 ∨ c = b + 10 ∨ c = b + 11) → w2.2.2 c = w.2.2 c) → Q (.inl none) w2) : ∀ k i : Nat, i + k = 12 → ∀ w1, Sh w1 → (∀ c, ¬ (c = b + 9 ∨ c = b + 10 ∨ c = b + 11) → w1.2.2 c = w.2.2 c) → pX 18 27 [some (.ref (b + 8)), some (iv (i : Nat))] [] w1 Q := by
  have a0 := bx_lt hb
  intro k
  induction k with
  | zero =>
    intro i hi w1 s1 hO
    refine v18_27 s1 hb (bdk (by omega)) ⟨fun _ => h w1 s1 hO, fun q => by omega⟩
  | succ k ih =>
    intro i hi w1 s1 hO
    refine v18_27 s1 hb (bdk (by omega)) ⟨fun q => by omega, fun _ => c17 s1 hb (by omega) (fun w2 s2 k2 _ _ _ => ⟨s2, ih (i + 1) (by omega) w2 s2 (fun c hc => by rw [k2 c hc, hO c hc])⟩)⟩
theorem c16 {w : PW} {Q : PO → PW → Prop} {b : Nat} (hs : Sh w) (hb : bx b) (h : ∀ w2, Sh w2 → (∀ c, c ≠ b + 3 → w2.2.2 c = w.2.2 c) → (∀ j, j < 36 → gL w2 (b + 3) j = 0) → Q (.inl none) w2) : pC 16 [.ref (b + 3), .long 0] w Q :=
  e16 hs (by have := bx_lt hb; omega) (tb3 hb) rfl (l16_6 hs hb h 36 0 rfl w hs (fun _ _ => rfl) (fun j hj => absurd hj (Nat.not_lt_zero j)))
theorem c18 {w : PW} {Q : PO → PW → Prop} {b : Nat} (hs : Sh w) (hb : bx b) (h : ∀ w2, Sh w2 → (∀ c, ¬ (b + 8 ≤ c ∧ c ≤ b + 11) → w2.2.2 c = w.2.2 c) → (∀ k, k < 5 → gI w2 (b + 8) k = 0) → Q (.inl none) w2) : pC 18 [.ref (b + 8)] w Q := by
  have a0 := bx_lt hb
  refine e18 hs hb (fun w1 e1 w2 e2 w3 e3 w4 e4 w5 e5 => ?_)
  obtain ⟨s1, g1, -, k1⟩ := stI e1 hs (by omega) (slt_o (tb8 hb) rfl) bd0
  obtain ⟨s2, g2, -, k2⟩ := stI e2 s1 (by omega) (slt_o (tb8 hb) rfl) bd0
  obtain ⟨s3, g3, -, k3⟩ := stI e3 s2 (by omega) (slt_o (tb8 hb) rfl) bd0
  obtain ⟨s4, g4, -, k4⟩ := stI e4 s3 (by omega) (slt_o (tb8 hb) rfl) bd0
  obtain ⟨s5, g5, -, k5⟩ := stI e5 s4 (by omega) (slt_o (tb8 hb) rfl) bd0
  refine l18_27 s5 hb (fun w6 s6 hO => h w6 s6 (fun c hc => by rw [hO c (by omega), k5 c (by omega), k4 c (by omega), k3 c (by omega), k2 c (by omega), k1 c (by omega)]) (fun k hk => ?_)) 12 0 rfl w5 s5 (fun _ _ => rfl)
  rw [gI_cell (hO (b + 8) (by omega)), g5]
  have hk5 : k = 0 ∨ k = 1 ∨ k = 2 ∨ k = 3 ∨ k = 4 := by omega
  rcases hk5 with rfl | rfl | rfl | rfl | rfl
  · rw [if_neg (by omega), g4, if_neg (by omega), g3, if_neg (by omega), g2, if_neg (by omega), g1, if_pos ⟨rfl, rfl⟩]
  · rw [if_neg (by omega), g4, if_neg (by omega), g3, if_neg (by omega), g2, if_pos ⟨rfl, rfl⟩]
  · rw [if_neg (by omega), g4, if_neg (by omega), g3, if_pos ⟨rfl, rfl⟩]
  · rw [if_neg (by omega), g4, if_pos ⟨rfl, rfl⟩]
  · rw [if_pos ⟨rfl, rfl⟩]
theorem c19 {w : PW} {Q : PO → PW → Prop} {b : Nat} {S U G : Int} (hs : Sh w) (hb : bx b) (hS : 8 ≤ S ∧ S ≤ 64) (hU : 1 ≤ U ∧ U ≤ 3) (hG : 0 ≤ G ∧ G ≤ 3) (h : ∀ w2, Sh w2 → BR w2 b (rBegin S U G) → OB b w w2 → Q (.inl none) w2) : pC 19 [.ref b, iv S, iv U, iv G] w Q := by
  have a0 := bx_lt hb
  refine e19 hs hb ⟨by omega, by omega⟩ ⟨by omega, by omega⟩ ⟨by omega, by omega⟩ (fun w1 e1 w2 e2 w3 e3 w4 e4 w5 e5 => ?_)
  obtain ⟨s1, g1, -, k1⟩ := stI e1 hs (by omega) (slt_o (tb0 hb) rfl) ⟨by omega, by omega⟩
  obtain ⟨s2, g2, -, k2⟩ := stI e2 s1 (by omega) (slt_o (tb0 hb) rfl) ⟨by omega, by omega⟩
  obtain ⟨s3, g3, -, k3⟩ := stI e3 s2 (by omega) (slt_o (tb0 hb) rfl) ⟨by omega, by omega⟩
  obtain ⟨s4, g4, -, k4⟩ := stI e4 s3 (by omega) (slt_o (tb0 hb) rfl) ⟨by decide, by decide⟩
  obtain ⟨s5, g5, -, k5⟩ := stI e5 s4 (by omega) (slt_o (tb0 hb) rfl) bd0
  refine c16 s5 hb (fun w6 s6 o6 l6 => ⟨s6, fun w8 e8 => ?_⟩)
  obtain ⟨s8, g8, l8, k8⟩ := stI e8 s6 (by omega) (slt_o (tb4 hb) rfl) bd0
  refine c18 s8 hb (fun w9 s9 o9 p9 => ⟨s9, h w9 s9 ?_ (fun c hc => by rw [o9 c (by omega), k8 c (by omega), o6 c (by omega), k5 c (by omega), k4 c (by omega), k3 c (by omega), k2 c (by omega), k1 c (by omega)])⟩)
  have hz : ∀ j, 4 ≤ j → rBegin S U G j = 0 := fun j hj => by unfold rBegin; rw [if_neg (by omega), if_neg (by omega), if_neg (by omega), if_neg (by omega)]
  have v : ∀ k, gI w9 b k = gI w5 b k := fun k => by rw [gI_cell (o9 b (by omega)), g8, if_neg (by omega), gI_cell (o6 b (by omega))]
  refine ⟨hb, rBegin_ok hS hU hG, ⟨?_, ?_, ?_, ?_, ?_⟩, fun t ht => by rw [hz 4 (by decide)] at ht; omega, ?_, fun i hi => by rw [hz 5 (by decide)] at hi; omega, ?_, fun k hk hk2 => by rw [hz 9 (by decide)] at hk2; omega, fun j s hj hs => ?_⟩
  · rw [v, g5, if_neg (by omega), g4, if_neg (by omega), g3, if_neg (by omega), g2, if_neg (by omega), g1, if_pos ⟨rfl, rfl⟩]; rfl
  · rw [v, g5, if_neg (by omega), g4, if_neg (by omega), g3, if_neg (by omega), g2, if_pos ⟨rfl, rfl⟩]; rfl
  · rw [v, g5, if_neg (by omega), g4, if_neg (by omega), g3, if_pos ⟨rfl, rfl⟩]; rfl
  · rw [v, g5, if_neg (by omega), g4, if_pos ⟨rfl, rfl⟩]; rfl
  · rw [v, g5, if_pos ⟨rfl, rfl⟩]; rfl
  · rw [hz 5 (by decide), gI_cell (o9 (b + 4) (by omega)), g8, if_pos ⟨rfl, rfl⟩]
  · rw [hz 6 (by decide), hz 7 (by decide), hz 8 (by decide), hz 9 (by decide), hz 10 (by decide)]
    exact ⟨p9 0 (by decide), p9 1 (by decide), p9 2 (by decide), p9 3 (by decide), p9 4 (by decide)⟩
  · rw [gL_cell (o9 (b + 3) (by omega)), l8, l6 j hj, tL_0]
    unfold rTr
    rw [hz 4 (by decide), show (0 : Int).toNat = 0 from rfl, Nat.mul_zero, decide_eq_false (by omega), Bool.false_and]
/-- the rows that were kept -/
def HR (w : PW) (H : Nat → Row) (n : Nat) : Prop := gI w 27 2 = n ∧ n ≤ 8 ∧ ∃ o : Nat, gI w 27 1 = o ∧ o < 8 ∧ ∀ j, j < n → BR w (29 + 13 * ((o + j) % 8)) (H j)
def hPush (H : Nat → Row) (n : Nat) (m : Row) : Nat → Row := fun j => if n = 8 then (if j = 7 then m else H (j + 1)) else if j = n then m else H j
def hLen (n : Nat) : Nat := if n = 8 then 8 else n + 1
theorem HR.cells {w w' : PW} {H : Nat → Row} {n : Nat} (h : HR w H n) (hk : ∀ c, (27 ≤ c ∧ c < 133) → w'.2.2 c = w.2.2 c) : HR w' H n := by
  obtain ⟨h1, h2, o, h3, h4, h5⟩ := h
  refine ⟨by rw [gI_cell (hk 27 (by omega))]; exact h1, h2, o, by rw [gI_cell (hk 27 (by omega))]; exact h3, h4, fun j hj => ?_⟩
  have := h5 j hj
  have hm : (o + j) % 8 < 8 := Nat.mod_lt _ (by decide)
  exact this.cells (fun k hk2 => hk _ (by omega))
theorem bx1 : bx 1 := bxc 1 rfl
theorem bxh {i : Nat} (h : i < 8) : bx (29 + 13 * i) := by
  have := bxH (z := (i : Int)) ⟨by omega, by omega⟩
  rw [Int.toNat_natCast] at this
  exact this
theorem keepW {w w2 w4 : PW} {H : Nat → Row} {n o : Nat} {m : Row} (hn : n < 8) (ho : o < 8) (h1 : gI w 27 1 = o) (h5 : ∀ j, j < n → BR w (29 + 13 * ((o + j) % 8)) (H j)) (s2 : Sh w2) (b2 : BR w2 (29 + 13 * ((o + n) % 8)) m) (o2 : OB (29 + 13 * ((o + n) % 8)) w w2) (e4 : w4 = sI w2 27 2 ((n : Int) + 1)) : Sh w4 ∧ HR w4 (fun j => if j = n then m else H j) (n + 1) ∧ (∀ c, c ≠ 27 → ¬ (29 ≤ c ∧ c < 133) → w4.2.2 c = w.2.2 c) := by
  have hm : (o + n) % 8 < 8 := Nat.mod_lt _ (by decide)
  obtain ⟨s4, g4, -, k4⟩ := stI e4 s2 (by omega) (slt_o tbC_27 rfl) ⟨by omega, by omega⟩
  refine ⟨s4, ⟨by rw [g4, if_pos ⟨rfl, rfl⟩]; rfl, by omega, o, by rw [g4, if_neg (by omega), gI_cell (o2 27 (by omega)), h1], ho, fun j hj => ?_⟩, fun c hc hc2 => by rw [k4 c hc, o2 c (by omega)]⟩
  show BR w4 (29 + 13 * ((o + j) % 8)) (if j = n then m else H j)
  by_cases q : j = n
  · rw [if_pos q, q]
    exact b2.cells (fun k hk => k4 _ (by omega))
  · rw [if_neg q]
    have hj2 := h5 j (by omega)
    have hm2 : (o + j) % 8 < 8 := Nat.mod_lt _ (by decide)
    have hne : (o + j) % 8 ≠ (o + n) % 8 := by omega
    exact (br_other hj2 o2 (bxh hm) (by omega)).cells (fun k hk => k4 _ (by omega))
theorem c164 {w : PW} {Q : PO → PW → Prop} {H : Nat → Row} {n : Nat} {m : Row} (hs : Sh w) (hB : BR w 1 m) (hH : HR w H n) (h : ∀ w2, Sh w2 → HR w2 (hPush H n m) (hLen n) → (∀ c, c ≠ 27 → ¬ (29 ≤ c ∧ c < 133) → w2.2.2 c = w.2.2 c) → Q (.inl none) w2) : pC 164 [.ref 27, .ref 1] w Q := by
  obtain ⟨h1, h2, o, h3, h4, h5⟩ := hH
  refine e164 hs bx1 ?_
  rw [h1, h3]
  refine ⟨fun q => ?_, fun q => ?_⟩
  · have et : (((o : Int) + (n : Int)).tmod 8) = (((o + n) % 8 : Nat) : Int) := by
      rw [Int.tmod_eq_emod_of_nonneg (by omega)]
      omega
    have hm : (o + n) % 8 < 8 := Nat.mod_lt _ (by decide)
    rw [et, Int.toNat_natCast]
    refine ⟨⟨by omega, by omega⟩, ⟨by omega, by omega⟩, c37 hs (bxh hm) hB (by omega) (fun w2 s2 b2 o2 => ⟨s2, fun w4 e4 => ?_⟩)⟩
    rw [gI_cell (o2 27 (by omega)), h1] at e4
    obtain ⟨s4, H4, k4⟩ := keepW (by omega) h4 h3 h5 s2 b2 o2 e4
    refine h w4 s4 ?_ k4
    have e1 : hPush H n m = fun j => if j = n then m else H j := by funext j; unfold hPush; rw [if_neg (by omega)]
    have e2 : hLen n = n + 1 := by unfold hLen; rw [if_neg (by omega)]
    rw [e1, e2]
    exact H4
  · have hn8 : n = 8 := by omega
    subst hn8
    refine ⟨⟨by omega, by omega⟩, fun w5 e5 w6 e6 => ?_⟩
    have et : (((o : Int) + 1).tmod 8) = (((o + 1) % 8 : Nat) : Int) := by
      rw [Int.tmod_eq_emod_of_nonneg (by omega)]
      omega
    rw [et] at e5
    have hm1 : (o + 1) % 8 < 8 := Nat.mod_lt _ (by decide)
    obtain ⟨s5, g5, -, k5⟩ := stI e5 hs (by omega) (slt_o tbC_27 rfl) (bdk (by omega))
    rw [g5, if_neg (by omega), h1] at e6
    obtain ⟨s6, g6, -, k6⟩ := stI e6 s5 (by omega) (slt_o tbC_27 rfl) (by decide)
    have v1 : gI w6 27 1 = (((o + 1) % 8 : Nat) : Int) := by rw [g6, if_neg (by omega), g5, if_pos ⟨rfl, rfl⟩]
    have v2 : gI w6 27 2 = ((7 : Nat) : Int) := by rw [g6, if_pos ⟨rfl, rfl⟩]; rfl
    rw [v1, v2]
    have et2 : ((((o + 1) % 8 : Nat) : Int) + ((7 : Nat) : Int)).tmod 8 = ((((o + 1) % 8 + 7) % 8 : Nat) : Int) := by
      rw [Int.tmod_eq_emod_of_nonneg (by omega)]
      omega
    have hm : ((o + 1) % 8 + 7) % 8 < 8 := Nat.mod_lt _ (by decide)
    rw [et2, Int.toNat_natCast]
    have hB6 : BR w6 1 m := hB.cells (fun k hk => by rw [k6 _ (by omega), k5 _ (by omega)])
    refine ⟨⟨by omega, by omega⟩, ⟨by omega, by omega⟩, c37 s6 (bxh hm) hB6 (by omega) (fun w7 s7 b7 o7 => ⟨s7, fun w9 e9 => ?_⟩)⟩
    rw [gI_cell (o7 27 (by omega)), v2] at e9
    obtain ⟨s9, H9, k9⟩ := keepW (H := fun j => H (j + 1)) (n := 7) (by decide) hm1 v1 (fun j hj => by
      have := h5 (j + 1) (by omega)
      rw [show ((o + 1) % 8 + j) % 8 = (o + (j + 1)) % 8 from by omega]
      have hm2 : (o + (j + 1)) % 8 < 8 := Nat.mod_lt _ (by decide)
      exact this.cells (fun k hk => by rw [k6 _ (by omega), k5 _ (by omega)])) s7 b7 o7 e9
    refine h w9 s9 ?_ (fun c hc hc2 => by rw [k9 c hc hc2, k6 c hc, k5 c hc])
    have e1 : hPush H 8 m = fun j => if j = 7 then m else H (j + 1) := by funext j; unfold hPush; rw [if_pos rfl]
    rw [e1]
    exact H9
theorem c55 {w : PW} {Q : PO → PW → Prop} {H : Nat → Row} {n : Nat} (hs : Sh w) (hH : HR w H (n + 1)) (h : ∀ w2, Sh w2 → BR w2 1 (H n) → HR w2 H n → (∀ c, ¬ (1 ≤ c ∧ c < 14) → c ≠ 27 → w2.2.2 c = w.2.2 c) → Q (.inl none) w2) : pC 55 [.ref 27, .ref 1] w Q := by
  obtain ⟨h1, h2, o, h3, h4, h5⟩ := hH
  refine e55 hs bx1 ?_
  rw [h1]
  refine ⟨fun q => by omega, fun _ w2 e2 => ?_⟩
  rw [show (((n + 1 : Nat) : Int) - 1) = (n : Int) from by omega] at e2
  obtain ⟨s2, g2, -, k2⟩ := stI e2 hs (by omega) (slt_o tbC_27 rfl) (bdk (by omega))
  have v1 : gI w2 27 1 = (o : Int) := by rw [g2, if_neg (by omega), h3]
  have v2 : gI w2 27 2 = (n : Int) := by rw [g2, if_pos ⟨rfl, rfl⟩]
  rw [v1, v2]
  have et : (((o : Int) + (n : Int)).tmod 8) = (((o + n) % 8 : Nat) : Int) := by
    rw [Int.tmod_eq_emod_of_nonneg (by omega)]
    omega
  have hm : (o + n) % 8 < 8 := Nat.mod_lt _ (by decide)
  rw [et, Int.toNat_natCast]
  have hB2 : BR w2 (29 + 13 * ((o + n) % 8)) (H n) := (h5 n (by omega)).cells (fun k hk => k2 _ (by omega))
  refine ⟨⟨by omega, by omega⟩, ⟨by omega, by omega⟩, c37 s2 bx1 hB2 (by omega) (fun w3 s3 b3 o3 => ⟨s3, h w3 s3 b3 ⟨?_, by omega, o, ?_, h4, fun j hj => ?_⟩ (fun c hc hc2 => by rw [o3 c (by omega), k2 c hc2])⟩)⟩
  · rw [gI_cell (o3 27 (by omega)), v2]
  · rw [gI_cell (o3 27 (by omega)), v1]
  · have hm2 : (o + j) % 8 < 8 := Nat.mod_lt _ (by decide)
    exact (h5 j (by omega)).cells (fun k hk => by rw [o3 _ (by omega), k2 _ (by omega)])
theorem c38 {w : PW} {Q : PO → PW → Prop} {H : Nat → Row} {n : Nat} (hs : Sh w) (hH : HR w H n) (h : ∀ w2, Sh w2 → (∀ G, HR w2 G 0) → (∀ c, c ≠ 27 → w2.2.2 c = w.2.2 c) → Q (.inl none) w2) : pC 38 [.ref 27] w Q := by
  obtain ⟨h1, h2, o, h3, h4, h5⟩ := hH
  refine e38 hs (fun w1 e1 => ?_)
  obtain ⟨s1, g1, -, k1⟩ := stI e1 hs (by omega) (slt_o tbC_27 rfl) bd0
  exact h w1 s1 (fun G => ⟨by rw [g1, if_pos ⟨rfl, rfl⟩]; rfl, by decide, o, by rw [g1, if_neg (by omega), h3], h4, fun j hj => absurd hj (Nat.not_lt_zero j)⟩) k1

