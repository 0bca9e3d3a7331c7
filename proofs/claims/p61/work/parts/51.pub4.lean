/-! THE CLASS's FACE: counts of notes, what was heard and would be -/
/-! 155: PinBarrel.silence(I)I -/
theorem b155 : mB 155 = cX8_silence := rfl
theorem r155 : mR 155 = (some .int) := rfl
theorem d155_0 : decode cX8_silence 0 = .ok (.aload_n 0, 1) := by decide +kernel
theorem d155_1 : decode cX8_silence 1 = .ok (.iload_n 1, 1) := by decide +kernel
theorem d155_2 : decode cX8_silence 2 = .ok (.invokevirtual 189, 3) := by decide +kernel
theorem d155_5 : decode cX8_silence 5 = .ok (.aload_n 0, 1) := by decide +kernel
theorem d155_6 : decode cX8_silence 6 = .ok (.getfield 12, 3) := by decide +kernel
theorem d155_9 : decode cX8_silence 9 = .ok (.iload_n 1, 1) := by decide +kernel
theorem d155_10 : decode cX8_silence 10 = .ok (.invokevirtual 304, 3) := by decide +kernel
theorem d155_13 : decode cX8_silence 13 = .ok (.lstore_n 2, 1) := by decide +kernel
theorem d155_14 : decode cX8_silence 14 = .ok (.iconst (-1), 1) := by decide +kernel
theorem d155_15 : decode cX8_silence 15 = .ok (.istore 4, 2) := by decide +kernel
theorem d155_17 : decode cX8_silence 17 = .ok (.iconst 0, 1) := by decide +kernel
theorem d155_18 : decode cX8_silence 18 = .ok (.istore 5, 2) := by decide +kernel
theorem d155_20 : decode cX8_silence 20 = .ok (.iload 5, 2) := by decide +kernel
theorem d155_22 : decode cX8_silence 22 = .ok (.aload_n 0, 1) := by decide +kernel
theorem d155_23 : decode cX8_silence 23 = .ok (.getfield 12, 3) := by decide +kernel
theorem d155_26 : decode cX8_silence 26 = .ok (.getfield 96, 3) := by decide +kernel
theorem d155_29 : decode cX8_silence 29 = .ok (.if_icmp .ge 38, 3) := by decide +kernel
theorem d155_32 : decode cX8_silence 32 = .ok (.lload_n 2, 1) := by decide +kernel
theorem d155_33 : decode cX8_silence 33 = .ok (.iload 5, 2) := by decide +kernel
theorem d155_35 : decode cX8_silence 35 = .ok (.invokestatic 307, 3) := by decide +kernel
theorem d155_38 : decode cX8_silence 38 = .ok (.ifCond .eq 23, 3) := by decide +kernel
theorem d155_41 : decode cX8_silence 41 = .ok (.iload 4, 2) := by decide +kernel
theorem d155_43 : decode cX8_silence 43 = .ok (.lload_n 2, 1) := by decide +kernel
theorem d155_44 : decode cX8_silence 44 = .ok (.iload 5, 2) := by decide +kernel
theorem d155_46 : decode cX8_silence 46 = .ok (.aload_n 0, 1) := by decide +kernel
theorem d155_47 : decode cX8_silence 47 = .ok (.getfield 12, 3) := by decide +kernel
theorem d155_50 : decode cX8_silence 50 = .ok (.getfield 96, 3) := by decide +kernel
theorem d155_53 : decode cX8_silence 53 = .ok (.invokestatic 311, 3) := by decide +kernel
theorem d155_56 : decode cX8_silence 56 = .ok (.invokestatic 301, 3) := by decide +kernel
theorem d155_59 : decode cX8_silence 59 = .ok (.istore 4, 2) := by decide +kernel
theorem d155_61 : decode cX8_silence 61 = .ok (.iinc 5 1, 3) := by decide +kernel
theorem d155_64 : decode cX8_silence 64 = .ok (.goto (-44), 3) := by decide +kernel
theorem d155_67 : decode cX8_silence 67 = .ok (.iload 4, 2) := by decide +kernel
theorem d155_69 : decode cX8_silence 69 = .ok (.ireturn, 1) := by decide +kernel
theorem v155_0 {w : PW} {Q : PO → PW → Prop} {x1 : Int} (hs : Sh w) (hx1 : bd x1) (h : (bd ((gI w 1 1) - 1)) ∧ ((0 ≤ x1 ∧ x1 < gI w 1 1) → pC 154 [.ref 1, iv x1] w (kL fun u3 w2 => Sh w2 ∧ pX 155 20 [some (.ref 0), some (iv x1), some (.long u3), none, some (iv ((-1))), some (iv 0)] [] w2 Q)) ∧ (¬ (0 ≤ x1 ∧ x1 < gI w 1 1) → Q (.inr 1) w)) : pX 155 0 [some (.ref 0), some (iv x1), none, none, none, none] [] w Q :=
  w_f b155 d155_0 rfl rfl rfl <| w_f b155 d155_1 rfl rfl rfl <| w_cc b155 d155_2 rfl (pcl_v (n := 1) rfl rfl rfl (by decide +kernel) (sh_isOb hs (tlt 0 rfl) tbC_0) rfl rfl) rfl <| c77 hs hx1 h.1 (fun c1 => w_f b155 d155_5 rfl rfl rfl <| w_gr b155 d155_6 rfl rfl hs (tlt 0 rfl) tbC_0 rfl (bxr0 (bxc 1 rfl)) <| w_f b155 d155_9 rfl rfl rfl <| w_c b155 d155_10 rfl (pcl_v (n := 1) rfl rfl rfl (by decide +kernel) (sh_isOb hs (bx00 (bxc 1 rfl)) (tb0 (bxc 1 rfl))) rfl rfl) rfl _ (hK_L fun u3 w2 hkw2 => w_f b155 d155_13 rfl rfl rfl <| w_f b155 d155_14 rfl rfl rfl <| w_f b155 d155_15 rfl rfl rfl <| w_f b155 d155_17 rfl rfl rfl <| w_f b155 d155_18 rfl rfl rfl <| hkw2.2) (h.2.1 c1)) (fun c1 => h.2.2 c1)
theorem e155 {w : PW} {Q : PO → PW → Prop} {x1 : Int} (hs : Sh w) (hx1 : bd x1) (h : (bd ((gI w 1 1) - 1)) ∧ ((0 ≤ x1 ∧ x1 < gI w 1 1) → pC 154 [.ref 1, iv x1] w (kL fun u3 w2 => Sh w2 ∧ pX 155 20 [some (.ref 0), some (iv x1), some (.long u3), none, some (iv ((-1))), some (iv 0)] [] w2 Q)) ∧ (¬ (0 ≤ x1 ∧ x1 < gI w 1 1) → Q (.inr 1) w)) : pC 155 [.ref 0, iv x1] w Q :=
  (pC_in (Nat.le_of_ble_eq_true rfl) rfl Q).mpr (v155_0 hs hx1 h)
theorem v155_20 {w : PW} {Q : PO → PW → Prop} {x1 : Int} {y2 : Int64} {x4 : Int} {x5 : Int} (hs : Sh w) (hx1 : bd x1) (hx4 : bd x4) (hx5 : bd x5) (h : ((gI w 1 0) ≤ x5 → Q (.inl (some (iv x4))) w) ∧ (x5 < (gI w 1 0) → (0 ≤ x5 ∧ x5 < 64) ∧ ((¬ (tL y2 (x5).toNat = true)) → pX 155 20 [some (.ref 0), some (iv x1), some (.long y2), none, some (iv x4), some (iv (x5 + 1))] [] w Q) ∧ ((tL y2 (x5).toNat = true) → (0 ≤ x5 ∧ x5 < (gI w 1 0) ∧ (gI w 1 0) ≤ 64) ∧ (bd (lWay y2 x5 (gI w 1 0))) ∧ pX 155 20 [some (.ref 0), some (iv x1), some (.long y2), none, some (iv (max x4 (lWay y2 x5 (gI w 1 0)))), some (iv (x5 + 1))] [] w Q))) : pX 155 20 [some (.ref 0), some (iv x1), some (.long y2), none, some (iv x4), some (iv x5)] [] w Q :=
  w_f b155 d155_20 rfl rfl rfl <| w_f b155 d155_22 rfl rfl rfl <| w_gr b155 d155_23 rfl rfl hs (tlt 0 rfl) tbC_0 rfl (bxr0 (bxc 1 rfl)) <| w_gi b155 d155_26 rfl rfl hs (bx00 (bxc 1 rfl)) (tb0 (bxc 1 rfl)) rfl <| w_icge b155 d155_29 rfl rfl (by decide +kernel) hx5 (bd_gI _ _ _) (fun c1 => w_f b155 d155_67 rfl rfl rfl <| w_ri b155 d155_69 r155 (h.1 c1)) (fun c1 => w_f b155 d155_32 rfl rfl rfl <| w_f b155 d155_33 rfl rfl rfl <| w_cc b155 d155_35 rfl (pcl_s1 (n := 2) rfl rfl rfl (by decide +kernel) rfl rfl) rfl <| c42 hs hx5 (h.2 c1).1 <| w_ifeqZ b155 d155_38 rfl rfl (by decide +kernel) (fun c2 => w_f b155 d155_61 rfl (pf_iinc rfl rfl) rfl <| w_j b155 d155_64 rfl (by decide +kernel) <| ((h.2 c1).2.1 c2)) (fun c2 => w_f b155 d155_41 rfl rfl rfl <| w_f b155 d155_43 rfl rfl rfl <| w_f b155 d155_44 rfl rfl rfl <| w_f b155 d155_46 rfl rfl rfl <| w_gr b155 d155_47 rfl rfl hs (tlt 0 rfl) tbC_0 rfl (bxr0 (bxc 1 rfl)) <| w_gi b155 d155_50 rfl rfl hs (bx00 (bxc 1 rfl)) (tb0 (bxc 1 rfl)) rfl <| w_cc b155 d155_53 rfl (pcl_s1 (n := 3) rfl rfl rfl (by decide +kernel) rfl rfl) rfl <| c90 hs hx5 (bd_gI _ _ _) ((h.2 c1).2.2 c2).1 <| w_max b155 d155_56 rfl rfl rfl hx4 ((h.2 c1).2.2 c2).2.1 <| w_f b155 d155_59 rfl rfl rfl <| w_f b155 d155_61 rfl (pf_iinc rfl rfl) rfl <| w_j b155 d155_64 rfl (by decide +kernel) <| ((h.2 c1).2.2 c2).2.2))
/-! 157: PinBarrel$Play.recall(II)I -/
theorem b157 : mB 157 = cX3_recall := rfl
theorem r157 : mR 157 = (some .int) := rfl
theorem p157 (a b : Nat) : phi 157 a ≤ phi 157 b := Nat.le_refl 0
theorem d157_0 : decode cX3_recall 0 = .ok (.iload_n 1, 1) := by decide +kernel
theorem d157_1 : decode cX3_recall 1 = .ok (.ifCond .lt 22, 3) := by decide +kernel
theorem d157_4 : decode cX3_recall 4 = .ok (.iload_n 1, 1) := by decide +kernel
theorem d157_5 : decode cX3_recall 5 = .ok (.aload_n 0, 1) := by decide +kernel
theorem d157_6 : decode cX3_recall 6 = .ok (.getfield 21, 3) := by decide +kernel
theorem d157_9 : decode cX3_recall 9 = .ok (.if_icmp .ge 14, 3) := by decide +kernel
theorem d157_12 : decode cX3_recall 12 = .ok (.iload_n 1, 1) := by decide +kernel
theorem d157_13 : decode cX3_recall 13 = .ok (.aload_n 0, 1) := by decide +kernel
theorem d157_14 : decode cX3_recall 14 = .ok (.getfield 21, 3) := by decide +kernel
theorem d157_17 : decode cX3_recall 17 = .ok (.bipush 100, 2) := by decide +kernel
theorem d157_19 : decode cX3_recall 19 = .ok (.isub, 1) := by decide +kernel
theorem d157_20 : decode cX3_recall 20 = .ok (.if_icmp .ge 5, 3) := by decide +kernel
theorem d157_23 : decode cX3_recall 23 = .ok (.iconst (-1), 1) := by decide +kernel
theorem d157_24 : decode cX3_recall 24 = .ok (.ireturn, 1) := by decide +kernel
theorem d157_25 : decode cX3_recall 25 = .ok (.aload_n 0, 1) := by decide +kernel
theorem d157_26 : decode cX3_recall 26 = .ok (.getfield 37, 3) := by decide +kernel
theorem d157_29 : decode cX3_recall 29 = .ok (.iload_n 1, 1) := by decide +kernel
theorem d157_30 : decode cX3_recall 30 = .ok (.bipush 100, 2) := by decide +kernel
theorem d157_32 : decode cX3_recall 32 = .ok (.irem, 1) := by decide +kernel
theorem d157_33 : decode cX3_recall 33 = .ok (.iconst 4, 1) := by decide +kernel
theorem d157_34 : decode cX3_recall 34 = .ok (.imul, 1) := by decide +kernel
theorem d157_35 : decode cX3_recall 35 = .ok (.iload_n 2, 1) := by decide +kernel
theorem d157_36 : decode cX3_recall 36 = .ok (.iadd, 1) := by decide +kernel
theorem d157_37 : decode cX3_recall 37 = .ok (.iaload, 1) := by decide +kernel
theorem d157_38 : decode cX3_recall 38 = .ok (.ireturn, 1) := by decide +kernel
theorem v157_0 {w : PW} {Q : PO → PW → Prop} {b : Nat} {x1 : Int} {x2 : Int} (hs : Sh w) (hb : bx b) (hx1 : bd x1) (hx2 : bd x2) (h : (x1 < 0 → Q (.inl (some (iv ((-1))))) w) ∧ (0 ≤ x1 → ((gI w (b + 8) 3) ≤ x1 → Q (.inl (some (iv ((-1))))) w) ∧ (x1 < (gI w (b + 8) 3) → (bd ((gI w (b + 8) 3) - 100)) ∧ (((gI w (b + 8) 3) - 100) ≤ x1 → (0 ≤ (((x1.tmod 100) * 4) + x2) ∧ (((x1.tmod 100) * 4) + x2) < 400) ∧ Q (.inl (some (iv (gI w (b + 12) (((x1.tmod 100) * 4) + x2).toNat)))) w) ∧ (x1 < ((gI w (b + 8) 3) - 100) → Q (.inl (some (iv ((-1))))) w)))) : pX 157 0 [some (.ref (b + 8)), some (iv x1), some (iv x2)] [] w Q :=
  w_f b157 d157_0 rfl rfl rfl <| w_iflt b157 d157_1 rfl rfl (p157 _ _) hx1 (fun c1 => w_f b157 d157_23 rfl rfl rfl <| w_ri b157 d157_24 r157 (h.1 c1)) (fun c1 => w_f b157 d157_4 rfl rfl rfl <| w_f b157 d157_5 rfl rfl rfl <| w_gi b157 d157_6 rfl rfl hs (bxk hb 8 rfl) (tb8 hb) rfl <| w_icge b157 d157_9 rfl rfl (p157 _ _) hx1 (bd_gI _ _ _) (fun c2 => w_f b157 d157_23 rfl rfl rfl <| w_ri b157 d157_24 r157 ((h.2 c1).1 c2)) (fun c2 => w_f b157 d157_12 rfl rfl rfl <| w_f b157 d157_13 rfl rfl rfl <| w_gi b157 d157_14 rfl rfl hs (bxk hb 8 rfl) (tb8 hb) rfl <| w_f b157 d157_17 rfl rfl rfl <| w_f b157 d157_19 rfl (pf_isub (gI w (b + 8) 3) 100) rfl <| w_icge b157 d157_20 rfl rfl (p157 _ _) hx1 ((h.2 c1).2 c2).1 (fun c3 => w_f b157 d157_25 rfl rfl rfl <| w_gr b157 d157_26 rfl rfl hs (bxk hb 8 rfl) (tb8 hb) rfl (bxr hb 12 rfl) <| w_f b157 d157_29 rfl rfl rfl <| w_f b157 d157_30 rfl rfl rfl <| w_f b157 d157_32 rfl (pf_irem hx1 ⟨by decide, by decide⟩) rfl <| w_f b157 d157_33 rfl rfl rfl <| w_f b157 d157_34 rfl (pf_imul (x1.tmod 100) 4) rfl <| w_f b157 d157_35 rfl rfl rfl <| w_f b157 d157_36 rfl (pf_iadd ((x1.tmod 100) * 4) x2) rfl <| w_ial b157 d157_37 rfl hs (bxk hb 12 rfl) (tb12 hb) (bdix (n := 400) (((h.2 c1).2 c2).2.1 c3).1 rfl) (((h.2 c1).2 c2).2.1 c3).1 <| w_ri b157 d157_38 r157 (((h.2 c1).2 c2).2.1 c3).2) (fun c3 => w_f b157 d157_23 rfl rfl rfl <| w_ri b157 d157_24 r157 (((h.2 c1).2 c2).2.2 c3))))
theorem e157 {w : PW} {Q : PO → PW → Prop} {b : Nat} {x1 : Int} {x2 : Int} (hs : Sh w) (hb : bx b) (hx1 : bd x1) (hx2 : bd x2) (h : (x1 < 0 → Q (.inl (some (iv ((-1))))) w) ∧ (0 ≤ x1 → ((gI w (b + 8) 3) ≤ x1 → Q (.inl (some (iv ((-1))))) w) ∧ (x1 < (gI w (b + 8) 3) → (bd ((gI w (b + 8) 3) - 100)) ∧ (((gI w (b + 8) 3) - 100) ≤ x1 → (0 ≤ (((x1.tmod 100) * 4) + x2) ∧ (((x1.tmod 100) * 4) + x2) < 400) ∧ Q (.inl (some (iv (gI w (b + 12) (((x1.tmod 100) * 4) + x2).toNat)))) w) ∧ (x1 < ((gI w (b + 8) 3) - 100) → Q (.inl (some (iv ((-1))))) w)))) : pC 157 [.ref (b + 8), iv x1, iv x2] w Q :=
  (pC_in (Nat.le_of_ble_eq_true rfl) rfl Q).mpr (v157_0 hs hb hx1 hx2 h)
/-! 158: PinBarrel.heard(II)I -/
theorem b158 : mB 158 = cX8_heard := rfl
theorem r158 : mR 158 = (some .int) := rfl
theorem d158_0 : decode cX8_heard 0 = .ok (.aload_n 0, 1) := by decide +kernel
theorem d158_1 : decode cX8_heard 1 = .ok (.iload_n 2, 1) := by decide +kernel
theorem d158_2 : decode cX8_heard 2 = .ok (.iconst 0, 1) := by decide +kernel
theorem d158_3 : decode cX8_heard 3 = .ok (.iconst 3, 1) := by decide +kernel
theorem d158_4 : decode cX8_heard 4 = .ok (.invokevirtual 223, 3) := by decide +kernel
theorem d158_7 : decode cX8_heard 7 = .ok (.aload_n 0, 1) := by decide +kernel
theorem d158_8 : decode cX8_heard 8 = .ok (.getfield 12, 3) := by decide +kernel
theorem d158_11 : decode cX8_heard 11 = .ok (.getfield 115, 3) := by decide +kernel
theorem d158_14 : decode cX8_heard 14 = .ok (.iload_n 1, 1) := by decide +kernel
theorem d158_15 : decode cX8_heard 15 = .ok (.iload_n 2, 1) := by decide +kernel
theorem d158_16 : decode cX8_heard 16 = .ok (.invokevirtual 314, 3) := by decide +kernel
theorem d158_19 : decode cX8_heard 19 = .ok (.ireturn, 1) := by decide +kernel
theorem v158_0 {w : PW} {Q : PO → PW → Prop} {x1 : Int} {x2 : Int} (hs : Sh w) (hx1 : bd x1) (hx2 : bd x2) (h : ((0 ≤ x2 ∧ x2 ≤ 3) → pC 157 [.ref (1 + 8), iv x1, iv x2] w (kI fun u3 w2 => Sh w2 ∧ Q (.inl (some (iv u3))) w2)) ∧ (¬ (0 ≤ x2 ∧ x2 ≤ 3) → Q (.inr 1) w)) : pX 158 0 [some (.ref 0), some (iv x1), some (iv x2)] [] w Q :=
  w_f b158 d158_0 rfl rfl rfl <| w_f b158 d158_1 rfl rfl rfl <| w_f b158 d158_2 rfl rfl rfl <| w_f b158 d158_3 rfl rfl rfl <| w_cc b158 d158_4 rfl (pcl_v (n := 3) rfl rfl rfl (by decide +kernel) (sh_isOb hs (tlt 0 rfl) tbC_0) rfl rfl) rfl <| c76 hs hx2 ⟨by decide, by decide⟩ ⟨by decide, by decide⟩ (fun c1 => w_f b158 d158_7 rfl rfl rfl <| w_gr b158 d158_8 rfl rfl hs (tlt 0 rfl) tbC_0 rfl (bxr0 (bxc 1 rfl)) <| w_gr b158 d158_11 rfl rfl hs (bx00 (bxc 1 rfl)) (tb0 (bxc 1 rfl)) rfl (bxr (bxc 1 rfl) 8 rfl) <| w_f b158 d158_14 rfl rfl rfl <| w_f b158 d158_15 rfl rfl rfl <| w_c b158 d158_16 rfl (pcl_v (n := 2) rfl rfl rfl (by decide +kernel) (sh_isOb hs (bxk (bxc 1 rfl) 8 rfl) (tb8 (bxc 1 rfl))) rfl rfl) rfl _ (hK_I fun u3 w2 hbu3 hkw2 => w_ri b158 d158_19 r158 hkw2.2) (h.1 c1)) (fun c1 => h.2 c1)
theorem e158 {w : PW} {Q : PO → PW → Prop} {x1 : Int} {x2 : Int} (hs : Sh w) (hx1 : bd x1) (hx2 : bd x2) (h : ((0 ≤ x2 ∧ x2 ≤ 3) → pC 157 [.ref (1 + 8), iv x1, iv x2] w (kI fun u3 w2 => Sh w2 ∧ Q (.inl (some (iv u3))) w2)) ∧ (¬ (0 ≤ x2 ∧ x2 ≤ 3) → Q (.inr 1) w)) : pC 158 [.ref 0, iv x1, iv x2] w Q :=
  (pC_in (Nat.le_of_ble_eq_true rfl) rfl Q).mpr (v158_0 hs hx1 hx2 h)
/-! 50: PinBarrel.nextTooth()I -/
theorem b50 : mB 50 = cX8_nextTooth := rfl
theorem r50 : mR 50 = (some .int) := rfl
theorem p50 (a b : Nat) : phi 50 a ≤ phi 50 b := Nat.le_refl 0
theorem d50_0 : decode cX8_nextTooth 0 = .ok (.iconst 0, 1) := by decide +kernel
theorem d50_1 : decode cX8_nextTooth 1 = .ok (.istore_n 1, 1) := by decide +kernel
theorem d50_2 : decode cX8_nextTooth 2 = .ok (.iload_n 1, 1) := by decide +kernel
theorem d50_3 : decode cX8_nextTooth 3 = .ok (.aload_n 0, 1) := by decide +kernel
theorem d50_4 : decode cX8_nextTooth 4 = .ok (.getfield 12, 3) := by decide +kernel
theorem d50_7 : decode cX8_nextTooth 7 = .ok (.getfield 96, 3) := by decide +kernel
theorem d50_10 : decode cX8_nextTooth 10 = .ok (.if_icmp .ge 75, 3) := by decide +kernel
theorem d50_13 : decode cX8_nextTooth 13 = .ok (.aload_n 0, 1) := by decide +kernel
theorem d50_14 : decode cX8_nextTooth 14 = .ok (.getfield 12, 3) := by decide +kernel
theorem d50_17 : decode cX8_nextTooth 17 = .ok (.getfield 115, 3) := by decide +kernel
theorem d50_20 : decode cX8_nextTooth 20 = .ok (.getfield 124, 3) := by decide +kernel
theorem d50_23 : decode cX8_nextTooth 23 = .ok (.iload_n 1, 1) := by decide +kernel
theorem d50_24 : decode cX8_nextTooth 24 = .ok (.iadd, 1) := by decide +kernel
theorem d50_25 : decode cX8_nextTooth 25 = .ok (.aload_n 0, 1) := by decide +kernel
theorem d50_26 : decode cX8_nextTooth 26 = .ok (.getfield 12, 3) := by decide +kernel
theorem d50_29 : decode cX8_nextTooth 29 = .ok (.getfield 96, 3) := by decide +kernel
theorem d50_32 : decode cX8_nextTooth 32 = .ok (.invokestatic 323, 3) := by decide +kernel
theorem d50_35 : decode cX8_nextTooth 35 = .ok (.istore_n 2, 1) := by decide +kernel
theorem d50_36 : decode cX8_nextTooth 36 = .ok (.iconst 0, 1) := by decide +kernel
theorem d50_37 : decode cX8_nextTooth 37 = .ok (.istore_n 3, 1) := by decide +kernel
theorem d50_38 : decode cX8_nextTooth 38 = .ok (.iload_n 3, 1) := by decide +kernel
theorem d50_39 : decode cX8_nextTooth 39 = .ok (.aload_n 0, 1) := by decide +kernel
theorem d50_40 : decode cX8_nextTooth 40 = .ok (.getfield 12, 3) := by decide +kernel
theorem d50_43 : decode cX8_nextTooth 43 = .ok (.getfield 108, 3) := by decide +kernel
theorem d50_46 : decode cX8_nextTooth 46 = .ok (.if_icmp .ge 33, 3) := by decide +kernel
theorem d50_49 : decode cX8_nextTooth 49 = .ok (.aload_n 0, 1) := by decide +kernel
theorem d50_50 : decode cX8_nextTooth 50 = .ok (.getfield 12, 3) := by decide +kernel
theorem d50_53 : decode cX8_nextTooth 53 = .ok (.aload_n 0, 1) := by decide +kernel
theorem d50_54 : decode cX8_nextTooth 54 = .ok (.getfield 12, 3) := by decide +kernel
theorem d50_57 : decode cX8_nextTooth 57 = .ok (.getfield 115, 3) := by decide +kernel
theorem d50_60 : decode cX8_nextTooth 60 = .ok (.getfield 119, 3) := by decide +kernel
theorem d50_63 : decode cX8_nextTooth 63 = .ok (.iload_n 2, 1) := by decide +kernel
theorem d50_64 : decode cX8_nextTooth 64 = .ok (.iload_n 3, 1) := by decide +kernel
theorem d50_65 : decode cX8_nextTooth 65 = .ok (.invokevirtual 195, 3) := by decide +kernel
theorem d50_68 : decode cX8_nextTooth 68 = .ok (.ifCond .eq 5, 3) := by decide +kernel
theorem d50_71 : decode cX8_nextTooth 71 = .ok (.iload_n 3, 1) := by decide +kernel
theorem d50_72 : decode cX8_nextTooth 72 = .ok (.ireturn, 1) := by decide +kernel
theorem d50_73 : decode cX8_nextTooth 73 = .ok (.iinc 3 1, 3) := by decide +kernel
theorem d50_76 : decode cX8_nextTooth 76 = .ok (.goto (-38), 3) := by decide +kernel
theorem d50_79 : decode cX8_nextTooth 79 = .ok (.iinc 1 1, 3) := by decide +kernel
theorem d50_82 : decode cX8_nextTooth 82 = .ok (.goto (-80), 3) := by decide +kernel
theorem d50_85 : decode cX8_nextTooth 85 = .ok (.iconst (-1), 1) := by decide +kernel
theorem d50_86 : decode cX8_nextTooth 86 = .ok (.ireturn, 1) := by decide +kernel
theorem v50_0 {w : PW} {Q : PO → PW → Prop}  (hs : Sh w)  (h : pX 50 2 [some (.ref 0), some (iv 0), none, none] [] w Q) : pX 50 0 [some (.ref 0), none, none, none] [] w Q :=
  w_f b50 d50_0 rfl rfl rfl <| w_f b50 d50_1 rfl rfl rfl <| h
theorem e50 {w : PW} {Q : PO → PW → Prop}  (hs : Sh w)  (h : pX 50 2 [some (.ref 0), some (iv 0), none, none] [] w Q) : pC 50 [.ref 0] w Q :=
  (pC_in (Nat.le_of_ble_eq_true rfl) rfl Q).mpr (v50_0 hs  h)
theorem v50_2 {w : PW} {Q : PO → PW → Prop} {x1 : Int} {o2 : Option Value} {o3 : Option Value} (hs : Sh w) (hx1 : bd x1) (ho2 : pc2 o2 = false) (ho3 : pc2 o3 = false) (h : ((gI w 1 0) ≤ x1 → Q (.inl (some (iv ((-1))))) w) ∧ (x1 < (gI w 1 0) → (bd ((gI w (1 + 8) 1) + x1)) ∧ pX 50 38 [some (.ref 0), some (iv x1), some (iv (wrp ((gI w (1 + 8) 1) + x1) (gI w 1 0))), some (iv 0)] [] w Q)) : pX 50 2 [some (.ref 0), some (iv x1), o2, o3] [] w Q :=
  w_f b50 d50_2 rfl rfl rfl <| w_f b50 d50_3 rfl rfl rfl <| w_gr b50 d50_4 rfl rfl hs (tlt 0 rfl) tbC_0 rfl (bxr0 (bxc 1 rfl)) <| w_gi b50 d50_7 rfl rfl hs (bx00 (bxc 1 rfl)) (tb0 (bxc 1 rfl)) rfl <| w_icge b50 d50_10 rfl rfl (p50 _ _) hx1 (bd_gI _ _ _) (fun c1 => w_f b50 d50_85 rfl rfl rfl <| w_ri b50 d50_86 r50 (h.1 c1)) (fun c1 => w_f b50 d50_13 rfl rfl rfl <| w_gr b50 d50_14 rfl rfl hs (tlt 0 rfl) tbC_0 rfl (bxr0 (bxc 1 rfl)) <| w_gr b50 d50_17 rfl rfl hs (bx00 (bxc 1 rfl)) (tb0 (bxc 1 rfl)) rfl (bxr (bxc 1 rfl) 8 rfl) <| w_gi b50 d50_20 rfl rfl hs (bxk (bxc 1 rfl) 8 rfl) (tb8 (bxc 1 rfl)) rfl <| w_f b50 d50_23 rfl rfl rfl <| w_f b50 d50_24 rfl (pf_iadd (gI w (1 + 8) 1) x1) rfl <| w_f b50 d50_25 rfl rfl rfl <| w_gr b50 d50_26 rfl rfl hs (tlt 0 rfl) tbC_0 rfl (bxr0 (bxc 1 rfl)) <| w_gi b50 d50_29 rfl rfl hs (bx00 (bxc 1 rfl)) (tb0 (bxc 1 rfl)) rfl <| w_cc b50 d50_32 rfl (pcl_s1 (n := 2) rfl rfl rfl (by decide +kernel) rfl rfl) rfl <| c47 hs (h.2 c1).1 (bd_gI _ _ _) <| w_f b50 d50_35 rfl rfl rfl <| w_f b50 d50_36 rfl rfl rfl <| w_f b50 d50_37 rfl rfl rfl <| (h.2 c1).2)
theorem v50_38 {w : PW} {Q : PO → PW → Prop} {x1 : Int} {x2 : Int} {x3 : Int} (hs : Sh w) (hx1 : bd x1) (hx2 : bd x2) (hx3 : bd x3) (h : ((gI w 1 4) ≤ x3 → pX 50 2 [some (.ref 0), some (iv (x1 + 1)), some (iv x2), some (iv x3)] [] w Q) ∧ (x3 < (gI w 1 4) → (bd ((gI w 1 1) * x3 + (gI w (1 + 8) 0))) ∧ (0 ≤ x2 ∧ x2 < 64) ∧ ((¬ (tL (lP w 1 ((gI w 1 1) * x3 + (gI w (1 + 8) 0))) (x2).toNat = true)) → pX 50 38 [some (.ref 0), some (iv x1), some (iv x2), some (iv (x3 + 1))] [] w Q) ∧ ((tL (lP w 1 ((gI w 1 1) * x3 + (gI w (1 + 8) 0))) (x2).toNat = true) → Q (.inl (some (iv x3))) w))) : pX 50 38 [some (.ref 0), some (iv x1), some (iv x2), some (iv x3)] [] w Q :=
  w_f b50 d50_38 rfl rfl rfl <| w_f b50 d50_39 rfl rfl rfl <| w_gr b50 d50_40 rfl rfl hs (tlt 0 rfl) tbC_0 rfl (bxr0 (bxc 1 rfl)) <| w_gi b50 d50_43 rfl rfl hs (bx00 (bxc 1 rfl)) (tb0 (bxc 1 rfl)) rfl <| w_icge b50 d50_46 rfl rfl (p50 _ _) hx3 (bd_gI _ _ _) (fun c1 => w_f b50 d50_79 rfl (pf_iinc rfl rfl) rfl <| w_j b50 d50_82 rfl (p50 _ _) <| (h.1 c1)) (fun c1 => w_f b50 d50_49 rfl rfl rfl <| w_gr b50 d50_50 rfl rfl hs (tlt 0 rfl) tbC_0 rfl (bxr0 (bxc 1 rfl)) <| w_f b50 d50_53 rfl rfl rfl <| w_gr b50 d50_54 rfl rfl hs (tlt 0 rfl) tbC_0 rfl (bxr0 (bxc 1 rfl)) <| w_gr b50 d50_57 rfl rfl hs (bx00 (bxc 1 rfl)) (tb0 (bxc 1 rfl)) rfl (bxr (bxc 1 rfl) 8 rfl) <| w_gi b50 d50_60 rfl rfl hs (bxk (bxc 1 rfl) 8 rfl) (tb8 (bxc 1 rfl)) rfl <| w_f b50 d50_63 rfl rfl rfl <| w_f b50 d50_64 rfl rfl rfl <| w_cc b50 d50_65 rfl (pcl_v (n := 3) rfl rfl rfl (by decide +kernel) (sh_isOb hs (bx00 (bxc 1 rfl)) (tb0 (bxc 1 rfl))) rfl rfl) rfl <| c43 hs (bxc 1 rfl) (bd_gI _ _ _) hx2 hx3 (h.2 c1).1 (h.2 c1).2.1 <| w_ifeqZ b50 d50_68 rfl rfl (p50 _ _) (fun c2 => w_f b50 d50_73 rfl (pf_iinc rfl rfl) rfl <| w_j b50 d50_76 rfl (p50 _ _) <| ((h.2 c1).2.2.1 c2)) (fun c2 => w_f b50 d50_71 rfl rfl rfl <| w_ri b50 d50_72 r50 ((h.2 c1).2.2.2 c2)))
def sp147 (m : Row) (x1 x2 : Int) : PO := spU m x1 (spR 0 23 x2 (rI (sUses m x1 x2 : Nat)))
theorem sUses_le {m : Row} (h : RowOK m) (x p : Int) : sUses m x p ≤ 60 := by
  have h5 := h.n
  have := cnt_le (fun i => decide (rN m i 0 = x ∧ rN m i 2 = p)) (m 5).toNat
  unfold sUses
  omega
def sMostA (m : Row) (u : Int) : Nat → Int × Nat
  | 0 => (-1, 0)
  | p + 1 => if (sMostA m u p).2 < sUses m u p then ((p : Int), sUses m u p) else sMostA m u p
theorem sMostA_bd {m : Row} (h : RowOK m) (u : Int) : ∀ n, -1 ≤ (sMostA m u n).1 ∧ (sMostA m u n).1 < n ∧ (sMostA m u n).2 ≤ 60 := by
  intro n
  induction n with
  | zero => exact ⟨by show (-1 : Int) ≤ -1; decide, by show (-1 : Int) < 0; decide, Nat.zero_le _⟩
  | succ n ih =>
    unfold sMostA
    split
    · exact ⟨by show (-1 : Int) ≤ (n : Int); omega, by show (n : Int) < ((n + 1 : Nat) : Int); omega, sUses_le h u n⟩
    · omega
def sp149 (m : Row) (x1 : Int) : PO := spU m x1 (rI (sMostA m x1 24).1)
def sCrwA (m : Row) (u p k : Int) : Nat → Int
  | 0 => 0
  | s + 1 => max (sCrwA m u p k s) (sInRow m u p s k : Nat)
theorem sInRow_le {m : Row} (h : RowOK m) (u p f k : Int) : sInRow m u p f k ≤ 60 := by
  have h5 := h.n
  have := cnt_le (sRowP m u p f k) (m 5).toNat
  unfold sInRow
  omega
theorem sCrwA_bd {m : Row} (h : RowOK m) (u p k : Int) : ∀ n, 0 ≤ sCrwA m u p k n ∧ sCrwA m u p k n ≤ 60 := by
  intro n
  induction n with
  | zero => exact ⟨Int.le_refl _, by show (0 : Int) ≤ 60; decide⟩
  | succ n ih =>
    have := sInRow_le h u p n k
    unfold sCrwA
    omega
def sp152 (m : Row) (x1 x2 x3 : Int) : PO := spU m x1 (spR 0 23 x2 (spR 1 64 x3 (rI (sCrwA m x1 x2 (min x3 (m 0)) (m 0).toNat))))
/-- has the tune a pin at the step -/
def sHasS (m : Row) (u s : Nat) : Bool := decide (0 < cnt (fun t => rPin m u s t) (m 4).toNat)
def sWyS (m : Row) (u s : Nat) : Nat := fnd (fun i => sHasS m u (wN (m 0).toNat s (i + 1))) ((m 0).toNat - 1) + 1
def sSilA (m : Row) (u : Nat) : Nat → Int
  | 0 => -1
  | s + 1 => if sHasS m u s = true then max (sSilA m u s) (sWyS m u s : Nat) else sSilA m u s
theorem sWyS_le {m : Row} (h : RowOK m) (u s : Nat) : sWyS m u s ≤ 64 := by
  have h0 := h.s
  have := (fnd_spec (fun i => sHasS m u (wN (m 0).toNat s (i + 1))) ((m 0).toNat - 1)).1
  unfold sWyS
  omega
theorem sSilA_bd {m : Row} (h : RowOK m) (u : Nat) : ∀ n, -1 ≤ sSilA m u n ∧ sSilA m u n ≤ 64 := by
  intro n
  induction n with
  | zero => exact ⟨Int.le_refl _, by show (-1 : Int) ≤ 64; decide⟩
  | succ n ih =>
    have := sWyS_le h u n
    unfold sSilA
    split <;> omega
def sp155 (m : Row) (x1 : Int) : PO := spU m x1 (rI (sSilA m x1.toNat (m 0).toNat))
theorem l155_20 {w : PW} {Q : PO → PW → Prop} {u : Nat} {m : Row} {X : Int64} (hs : Sh w) (hB : BR w 1 m) (hu : (u : Int) < m 1) (hX : ∀ s, s < 64 → tL X s = (decide ((s : Int) < m 0) && sHasS m u s)) (h : Q (rI (sSilA m u (m 0).toNat)) w) : ∀ k i : Nat, i + k = (m 0).toNat → pX 155 20 [some (.ref 0), some (iv (u : Nat)), some (.long X), none, some (iv (sSilA m u i)), some (iv (i : Nat))] [] w Q := by
  have h0 := hB.ok.s
  have h1 := hB.ok.u
  intro k
  induction k with
  | zero =>
    intro i hi 
    have hb := sSilA_bd hB.ok u i
    refine v155_20 hs (bdk (by omega)) ⟨by omega, by omega⟩ (bdk (by omega)) ?_
    rw [hB.s]
    refine ⟨fun _ => ?_, fun q => by omega⟩
    rw [show (m 0).toNat = i from by omega] at h
    exact h
  | succ k ih =>
    intro i hi 
    have hb := sSilA_bd hB.ok u i
    have hwl := sWyS_le hB.ok u i
    have hx : tL X i = sHasS m u i := by rw [hX i (by omega), decide_eq_true (by omega)]; rfl
    have hw : lWay X (i : Nat) (m 0) = (sWyS m u i : Nat) := by
      unfold lWay sWyS
      rw [show (m 0 - 1).toNat = (m 0).toNat - 1 from by omega]
      have e : fnd (fun j => tL X (wrp ((i : Int) + ((j + 1 : Nat) : Int)) (m 0)).toNat) ((m 0).toNat - 1) = fnd (fun j => sHasS m u (wN (m 0).toNat i (j + 1))) ((m 0).toNat - 1) := by
        refine fnd_congr (fun j hj => ?_)
        have h1' : (wrp ((i : Int) + ((j + 1 : Nat) : Int)) (m 0)).toNat = wN (m 0).toNat i (j + 1) := by
          unfold wrp wN
          split <;> split <;> omega
        have h2' := wN_lt (S := (m 0).toNat) (s := i) (i := j + 1) (by omega) (by omega)
        rw [h1', hX _ (by omega), decide_eq_true (by omega)]
        rfl
      rw [e]
      rfl
    refine v155_20 hs (bdk (by omega)) ⟨by omega, by omega⟩ (bdk (by omega)) ?_
    rw [hB.s, Int.toNat_natCast, hx, hw]
    refine ⟨fun q => by omega, fun _ => ⟨⟨by omega, by omega⟩, fun q => ?_, fun q => ⟨⟨by omega, by omega, by omega⟩, bdk (by omega), ?_⟩⟩⟩
    · have := ih (i + 1) (by omega)
      rw [show sSilA m u (i + 1) = sSilA m u i from if_neg q] at this
      exact this
    · have := ih (i + 1) (by omega)
      rw [show sSilA m u (i + 1) = max (sSilA m u i) (sWyS m u i : Nat) from if_pos q] at this
      exact this
theorem c155 {w : PW} {Q : PO → PW → Prop} {m : Row} {x1 : Int} (hs : Sh w) (hB : BR w 1 m) (hx1 : bd x1) (h : Q (sp155 m x1) w) : pC 155 [.ref 0, iv x1] w Q := by
  have h1 := hB.ok.u
  refine e155 hs hx1 ?_
  rw [hB.u]
  refine ⟨⟨by omega, by omega⟩, fun q1 => ?_, sp_f h⟩
  have hr := sp_t h q1
  obtain ⟨u, rfl⟩ := nat_of q1.1
  exact c154 hs hB q1.2 (fun X hX => ⟨hs, l155_20 hs hB q1.2 hX hr _ 0 (Nat.zero_add _)⟩)
def sHeard (m : Row) (i x : Int) : Int := if 0 ≤ i ∧ i < m 9 ∧ m 9 - 100 ≤ i then m (443 + 4 * (i.toNat % 100) + x.toNat) else -1
theorem c157 {w : PW} {Q : PO → PW → Prop} {b : Nat} {m : Row} {x1 x2 : Int} (hs : Sh w) (hB : BR w b m) (hx1 : bd x1) (hx2 : 0 ≤ x2 ∧ x2 ≤ 3) (h : Q (rI (sHeard m x1 x2)) w) : pC 157 [.ref (b + 8), iv x1, iv x2] w Q := by
  have h9 := hB.ok.pp
  have h8 := hB.ok.pt
  have no : ¬ (0 ≤ x1 ∧ x1 < m 9 ∧ m 9 - 100 ≤ x1) → Q (.inl (some (iv (-1)))) w := fun q => by
    unfold sHeard at h
    rw [if_neg q] at h
    exact h
  refine e157 hs hB.bx hx1 ⟨by omega, by omega⟩ ?_
  rw [hB.pp]
  refine ⟨fun q => no (by omega), fun q => ⟨fun q2 => no (by omega), fun q2 => ⟨⟨by omega, by omega⟩, fun q3 => ?_, fun q3 => no (by omega)⟩⟩⟩
  unfold sHeard at h
  rw [if_pos ⟨q, q2, q3⟩] at h
  obtain ⟨i, rfl⟩ := nat_of q
  obtain ⟨x, rfl⟩ := nat_of hx2.1
  rw [Int.toNat_natCast, Int.toNat_natCast] at h
  have e : ((i : Int).tmod 100) * 4 + (x : Int) = ((4 * (i % 100) + x : Nat) : Int) := by
    rw [Int.tmod_eq_emod_of_nonneg (by omega)]
    omega
  rw [e, Int.toNat_natCast, hB.M (by omega) (by omega), ← Nat.add_assoc]
  exact ⟨⟨by omega, by omega⟩, h⟩
def sp158 (m : Row) (x1 x2 : Int) : PO := spR 0 3 x2 (rI (sHeard m x1 x2))
theorem sHeard_bd {m : Row} {w : PW} {b : Nat} (hB : BR w b m) (i x : Int) (hx : 0 ≤ x ∧ x ≤ 3) : bd (sHeard m i x) := by
  unfold sHeard
  split
  · rename_i q
    obtain ⟨j, rfl⟩ := nat_of q.1
    have := hB.M (k := 4 * (j % 100) + x.toNat) (by omega) (by omega)
    rw [Int.toNat_natCast, Nat.add_assoc, ← this]
    exact bd_gI _ _ _
  · exact ⟨by decide, by decide⟩
theorem c158 {w : PW} {Q : PO → PW → Prop} {m : Row} {x1 x2 : Int} (hs : Sh w) (hB : BR w 1 m) (hx1 : bd x1) (hx2 : bd x2) (h : Q (sp158 m x1 x2) w) : pC 158 [.ref 0, iv x1, iv x2] w Q :=
  e158 hs hx1 hx2 ⟨fun q => c157 (b := 1) hs hB hx1 q (kI_iv (sHeard_bd hB x1 x2 q) ⟨hs, sp_t h q⟩), sp_f h⟩
def sNT (m : Row) (j : Nat) : Bool := decide (((j % 12 : Nat) : Int) < m 4) && rPin m (m 6).toNat (wN (m 0).toNat (m 7).toNat (j / 12)) (j % 12)
def sp50 (m : Row) : PO := rI (if fnd (sNT m) (12 * (m 0).toNat) < 12 * (m 0).toNat then ((fnd (sNT m) (12 * (m 0).toNat) % 12 : Nat) : Int) else -1)
theorem sNT_at {m : Row} {i t : Nat} (ht : t < 12) : sNT m (12 * i + t) = (decide ((t : Int) < m 4) && rPin m (m 6).toNat (wN (m 0).toNat (m 7).toNat i) t) := by
  unfold sNT
  rw [show (12 * i + t) % 12 = t from by omega, show (12 * i + t) / 12 = i from by omega]
theorem l50_38 {w : PW} {Q : PO → PW → Prop} {x : Nat} {m : Row} (hs : Sh w) (hB : BR w 1 m) (hx : x < (m 0).toNat) (hQ : ∀ t, t < (m 4).toNat → (∀ j, j < 12 * x + t → sNT m j = false) → sNT m (12 * x + t) = true → Q (rI (t : Nat)) w) (h : (∀ j, j < 12 * (x + 1) → sNT m j = false) → pX 50 2 [some (.ref 0), some (iv ((x : Int) + 1)), some (iv (wN (m 0).toNat (m 7).toNat x : Nat)), some (iv (((m 4).toNat : Nat) : Int))] [] w Q) : ∀ k i : Nat, i + k = (m 4).toNat → (∀ j, j < 12 * x + i → sNT m j = false) → pX 50 38 [some (.ref 0), some (iv (x : Nat)), some (iv (wN (m 0).toNat (m 7).toNat x : Nat)), some (iv (i : Nat))] [] w Q := by
  have h4 := hB.ok.t
  have h0 := hB.ok.s
  have h1 := hB.ok.u
  have h6 := hB.ok.pu
  have h7 := hB.ok.ps
  have hw := wN_lt (S := (m 0).toNat) (s := (m 7).toNat) (i := x) (by omega) (by omega)
  intro k
  induction k with
  | zero =>
    intro i hi hI
    refine v50_38 hs (bdk (by omega)) (bdk (by omega)) (bdk (by omega)) ?_
    rw [hB.t]
    refine ⟨fun _ => ?_, fun q => by omega⟩
    rw [show i = (m 4).toNat from by omega] at hI ⊢
    refine h (fun j hj => ?_)
    by_cases q : j < 12 * x + (m 4).toNat
    · exact hI j q
    · rw [show j = 12 * x + (j - 12 * x) from by omega, sNT_at (by omega), decide_eq_false (by omega), Bool.false_and]
  | succ k ih =>
    intro i hi hI
    refine v50_38 hs (bdk (by omega)) (bdk (by omega)) (bdk (by omega)) ?_
    have hp := hB.pin (u := m 6) (s := (wN (m 0).toNat (m 7).toNat x : Nat)) (t := i) h6 (by omega) (by omega)
    rw [Int.toNat_natCast] at hp
    rw [hB.t, hB.u, show gI w (1 + 8) 0 = m 6 from hB.pu, Int.toNat_natCast, hp]
    have hat := sNT_at (m := m) (i := x) (t := i) (by omega)
    rw [decide_eq_true (by omega), Bool.true_and] at hat
    refine ⟨fun q => by omega, fun _ => ⟨hB.tb h6 (by omega), by omega, fun q => ih (i + 1) (by omega) (fun j hj => ?_), fun q => hQ i (by omega) hI (by rw [hat]; exact q)⟩⟩
    by_cases e : j = 12 * x + i
    · rw [e, hat]; exact Bool.eq_false_iff.mpr q
    · exact hI j (by omega)
theorem l50_2 {w : PW} {Q : PO → PW → Prop} {m : Row} (hs : Sh w) (hB : BR w 1 m) (h : Q (sp50 m) w) : ∀ k i : Nat, i + k = (m 0).toNat → (∀ j, j < 12 * i → sNT m j = false) → ∀ o2 o3 : Option Value, pc2 o2 = false → pc2 o3 = false → pX 50 2 [some (.ref 0), some (iv (i : Nat)), o2, o3] [] w Q := by
  have h4 := hB.ok.t
  have h0 := hB.ok.s
  have h7 := hB.ok.ps
  intro k
  induction k with
  | zero =>
    intro i hi hI o2 o3 ho2 ho3
    refine v50_2 hs (bdk (by omega)) ho2 ho3 ?_
    rw [hB.s]
    refine ⟨fun _ => ?_, fun q => by omega⟩
    have e : fnd (sNT m) (12 * (m 0).toNat) = 12 * (m 0).toNat := fnd_eq (by rw [show (m 0).toNat = i from by omega]; exact hI) (fun q => absurd q (Nat.lt_irrefl _)) (Nat.le_refl _)
    unfold sp50 at h
    rw [e, if_neg (Nat.lt_irrefl _)] at h
    exact h
  | succ k ih =>
    intro i hi hI o2 o3 ho2 ho3
    have ew : wrp (m 7 + (i : Int)) (m 0) = (wN (m 0).toNat (m 7).toNat i : Nat) := by
      unfold wrp wN
      split <;> split <;> omega
    refine v50_2 hs (bdk (by omega)) ho2 ho3 ?_
    rw [hB.s, show gI w (1 + 8) 1 = m 7 from hB.ps, ew]
    refine ⟨fun q => by omega, fun _ => ⟨⟨by omega, by omega⟩, l50_38 hs hB (by omega) (fun t ht hF hT => ?_) (fun hF => ih (i + 1) (by omega) hF _ _ rfl rfl) _ 0 (Nat.zero_add _) hI⟩⟩
    have e : fnd (sNT m) (12 * (m 0).toNat) = 12 * i + t := fnd_eq hF (fun _ => hT) (by omega)
    unfold sp50 at h
    rw [e, if_pos (by omega), show (12 * i + t) % 12 = t from by omega] at h
    exact h
theorem c50 {w : PW} {Q : PO → PW → Prop} {m : Row} (hs : Sh w) (hB : BR w 1 m) (h : Q (sp50 m) w) : pC 50 [.ref 0] w Q :=
  e50 hs (l50_2 hs hB h _ 0 (Nat.zero_add _) (fun j hj => absurd hj (by omega)) none none rfl rfl)
def sp54 (o : Nat → Int) (n : Nat) (x : Int) : PO := rI (if 0 ≤ x ∧ x < (n : Int) then o x.toNat else -1)
