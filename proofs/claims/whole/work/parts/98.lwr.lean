/-! THE LAW: its wrappers -/
/-! 66: PinBarrelLaw.size(LPinBarrel;I[J)I -/
theorem b66 : mB 66 = cL_size := rfl
theorem r66 : mR 66 = (some .int) := rfl
theorem d66_0 : decode cL_size 0 = .ok (.aload_n 2, 1) := by decide +kernel
theorem d66_1 : decode cL_size 1 = .ok (.iconst 0, 1) := by decide +kernel
theorem d66_2 : decode cL_size 2 = .ok (.aload_n 0, 1) := by decide +kernel
theorem d66_3 : decode cL_size 3 = .ok (.iload_n 1, 1) := by decide +kernel
theorem d66_4 : decode cL_size 4 = .ok (.invokevirtual 7, 3) := by decide +kernel
theorem d66_7 : decode cL_size 7 = .ok (.i2l, 1) := by decide +kernel
theorem d66_8 : decode cL_size 8 = .ok (.lastore, 1) := by decide +kernel
theorem d66_9 : decode cL_size 9 = .ok (.goto 6, 3) := by decide +kernel
theorem d66_13 : decode cL_size 13 = .ok (.iconst 1, 1) := by decide +kernel
theorem d66_14 : decode cL_size 14 = .ok (.ireturn, 1) := by decide +kernel
theorem d66_15 : decode cL_size 15 = .ok (.iconst 0, 1) := by decide +kernel
theorem d66_16 : decode cL_size 16 = .ok (.ireturn, 1) := by decide +kernel
theorem v66_0 {w : PW} {Q : PO → PW → Prop} {x1 : Int} (hs : Sh w) (hx1 : bd x1) (h : pC 65 [.ref 0, iv x1] w (kH (kI fun u2 w1 => Sh w1 ∧ ∀ w3 : PW, w3 = sL w1 180 0 (i2L u2) → Q (.inl (some (iv 0))) w3) (fun E w4 => (E = 1 ∧ Sh w4 ∧ Q (.inl (some (iv 1))) w4)))) : pX 66 0 [some (.ref 0), some (iv x1), some (.ref 180), none] [] w Q :=
  w_f b66 d66_0 rfl rfl rfl <| w_f b66 d66_1 rfl rfl rfl <| w_f b66 d66_2 rfl rfl rfl <| w_f b66 d66_3 rfl rfl rfl <| w_c b66 d66_4 rfl (pcl_v (n := 1) rfl rfl rfl (by decide +kernel) (sh_isOb hs (tlt 0 rfl) tbC_0) rfl rfl) rfl _ (hK_H (hK_I fun u2 w1 hbu2 hkw1 => w_f b66 d66_7 rfl rfl rfl <| w_las b66 d66_8 rfl hkw1.1 (tlt 180 rfl) tbC_180 (bdix (n := 1) ⟨by decide, by decide⟩ rfl) ⟨by decide, by decide⟩ <| w_j b66 d66_9 rfl (by decide +kernel) <| w_f b66 d66_15 rfl rfl rfl <| w_ri b66 d66_16 r66 (hkw1.2 _ rfl)) (fun E w4 => (fun q => by
  obtain ⟨rfl, hsw4, hkw4⟩ := q
  show (4 + 3 ≤ 12 ∧ 3 < 4) ∧ pX 66 13 [some (.ref 0), some (iv x1), some (.ref 180), none] [] w4 Q
  exact ⟨⟨by decide, by decide⟩, w_f b66 d66_13 rfl rfl rfl <| w_ri b66 d66_14 r66 hkw4⟩))) h
theorem e66 {w : PW} {Q : PO → PW → Prop} {x1 : Int} (hs : Sh w) (hx1 : bd x1) (h : pC 65 [.ref 0, iv x1] w (kH (kI fun u2 w1 => Sh w1 ∧ ∀ w3 : PW, w3 = sL w1 180 0 (i2L u2) → Q (.inl (some (iv 0))) w3) (fun E w4 => (E = 1 ∧ Sh w4 ∧ Q (.inl (some (iv 1))) w4)))) : pC 66 [.ref 0, iv x1, .ref 180] w Q :=
  (pC_in (Nat.le_of_ble_eq_true rfl) rfl Q).mpr (v66_0 hs hx1 h)
/-! 70: PinBarrelLaw.tooth(LPinBarrel;II[J)I -/
theorem b70 : mB 70 = cL_tooth := rfl
theorem r70 : mR 70 = (some .int) := rfl
theorem d70_0 : decode cL_tooth 0 = .ok (.aload_n 3, 1) := by decide +kernel
theorem d70_1 : decode cL_tooth 1 = .ok (.iconst 0, 1) := by decide +kernel
theorem d70_2 : decode cL_tooth 2 = .ok (.aload_n 0, 1) := by decide +kernel
theorem d70_3 : decode cL_tooth 3 = .ok (.iload_n 1, 1) := by decide +kernel
theorem d70_4 : decode cL_tooth 4 = .ok (.iload_n 2, 1) := by decide +kernel
theorem d70_5 : decode cL_tooth 5 = .ok (.invokevirtual 15, 3) := by decide +kernel
theorem d70_8 : decode cL_tooth 8 = .ok (.i2l, 1) := by decide +kernel
theorem d70_9 : decode cL_tooth 9 = .ok (.lastore, 1) := by decide +kernel
theorem d70_10 : decode cL_tooth 10 = .ok (.goto 11, 3) := by decide +kernel
theorem d70_15 : decode cL_tooth 15 = .ok (.iconst 1, 1) := by decide +kernel
theorem d70_16 : decode cL_tooth 16 = .ok (.ireturn, 1) := by decide +kernel
theorem d70_19 : decode cL_tooth 19 = .ok (.iconst 2, 1) := by decide +kernel
theorem d70_20 : decode cL_tooth 20 = .ok (.ireturn, 1) := by decide +kernel
theorem d70_21 : decode cL_tooth 21 = .ok (.iconst 0, 1) := by decide +kernel
theorem d70_22 : decode cL_tooth 22 = .ok (.ireturn, 1) := by decide +kernel
theorem v70_0 {w : PW} {Q : PO → PW → Prop} {x1 : Int} {x2 : Int} (hs : Sh w) (hx1 : bd x1) (hx2 : bd x2) (h : pC 69 [.ref 0, iv x1, iv x2] w (kH (kI fun u2 w1 => Sh w1 ∧ ∀ w3 : PW, w3 = sL w1 180 0 (i2L u2) → Q (.inl (some (iv 0))) w3) (fun E w4 => (E = 1 ∧ Sh w4 ∧ Q (.inl (some (iv 2))) w4) ∨ (E = 2 ∧ Sh w4 ∧ Q (.inl (some (iv 1))) w4)))) : pX 70 0 [some (.ref 0), some (iv x1), some (iv x2), some (.ref 180), none] [] w Q :=
  w_f b70 d70_0 rfl rfl rfl <| w_f b70 d70_1 rfl rfl rfl <| w_f b70 d70_2 rfl rfl rfl <| w_f b70 d70_3 rfl rfl rfl <| w_f b70 d70_4 rfl rfl rfl <| w_c b70 d70_5 rfl (pcl_v (n := 2) rfl rfl rfl (by decide +kernel) (sh_isOb hs (tlt 0 rfl) tbC_0) rfl rfl) rfl _ (hK_H (hK_I fun u2 w1 hbu2 hkw1 => w_f b70 d70_8 rfl rfl rfl <| w_las b70 d70_9 rfl hkw1.1 (tlt 180 rfl) tbC_180 (bdix (n := 1) ⟨by decide, by decide⟩ rfl) ⟨by decide, by decide⟩ <| w_j b70 d70_10 rfl (by decide +kernel) <| w_f b70 d70_21 rfl rfl rfl <| w_ri b70 d70_22 r70 (hkw1.2 _ rfl)) (fun E w4 hq => hq.elim (fun q => by
  obtain ⟨rfl, hsw4, hkw4⟩ := q
  show (5 + 3 ≤ 17 ∧ 4 < 5) ∧ pX 70 19 [some (.ref 0), some (iv x1), some (iv x2), some (.ref 180), none] [] w4 Q
  exact ⟨⟨by decide, by decide⟩, w_f b70 d70_19 rfl rfl rfl <| w_ri b70 d70_20 r70 hkw4⟩) (fun q => by
  obtain ⟨rfl, hsw4, hkw4⟩ := q
  show (5 + 3 ≤ 13 ∧ 4 < 5) ∧ pX 70 15 [some (.ref 0), some (iv x1), some (iv x2), some (.ref 180), none] [] w4 Q
  exact ⟨⟨by decide, by decide⟩, w_f b70 d70_15 rfl rfl rfl <| w_ri b70 d70_16 r70 hkw4⟩))) h
theorem e70 {w : PW} {Q : PO → PW → Prop} {x1 : Int} {x2 : Int} (hs : Sh w) (hx1 : bd x1) (hx2 : bd x2) (h : pC 69 [.ref 0, iv x1, iv x2] w (kH (kI fun u2 w1 => Sh w1 ∧ ∀ w3 : PW, w3 = sL w1 180 0 (i2L u2) → Q (.inl (some (iv 0))) w3) (fun E w4 => (E = 1 ∧ Sh w4 ∧ Q (.inl (some (iv 2))) w4) ∨ (E = 2 ∧ Sh w4 ∧ Q (.inl (some (iv 1))) w4)))) : pC 70 [.ref 0, iv x1, iv x2, .ref 180] w Q :=
  (pC_in (Nat.le_of_ble_eq_true rfl) rfl Q).mpr (v70_0 hs hx1 hx2 h)
/-! 75: PinBarrelLaw.note(LPinBarrel;II[J)I -/
theorem b75 : mB 75 = cL_note := rfl
theorem r75 : mR 75 = (some .int) := rfl
theorem d75_0 : decode cL_note 0 = .ok (.aload_n 3, 1) := by decide +kernel
theorem d75_1 : decode cL_note 1 = .ok (.iconst 0, 1) := by decide +kernel
theorem d75_2 : decode cL_note 2 = .ok (.aload_n 0, 1) := by decide +kernel
theorem d75_3 : decode cL_note 3 = .ok (.iload_n 1, 1) := by decide +kernel
theorem d75_4 : decode cL_note 4 = .ok (.iload_n 2, 1) := by decide +kernel
theorem d75_5 : decode cL_note 5 = .ok (.invokevirtual 21, 3) := by decide +kernel
theorem d75_8 : decode cL_note 8 = .ok (.i2l, 1) := by decide +kernel
theorem d75_9 : decode cL_note 9 = .ok (.lastore, 1) := by decide +kernel
theorem d75_10 : decode cL_note 10 = .ok (.goto 11, 3) := by decide +kernel
theorem d75_15 : decode cL_note 15 = .ok (.iconst 1, 1) := by decide +kernel
theorem d75_16 : decode cL_note 16 = .ok (.ireturn, 1) := by decide +kernel
theorem d75_19 : decode cL_note 19 = .ok (.iconst 2, 1) := by decide +kernel
theorem d75_20 : decode cL_note 20 = .ok (.ireturn, 1) := by decide +kernel
theorem d75_21 : decode cL_note 21 = .ok (.iconst 0, 1) := by decide +kernel
theorem d75_22 : decode cL_note 22 = .ok (.ireturn, 1) := by decide +kernel
theorem v75_0 {w : PW} {Q : PO → PW → Prop} {x1 : Int} {x2 : Int} (hs : Sh w) (hx1 : bd x1) (hx2 : bd x2) (h : pC 74 [.ref 0, iv x1, iv x2] w (kH (kI fun u2 w1 => Sh w1 ∧ ∀ w3 : PW, w3 = sL w1 180 0 (i2L u2) → Q (.inl (some (iv 0))) w3) (fun E w4 => (E = 1 ∧ Sh w4 ∧ Q (.inl (some (iv 2))) w4) ∨ (E = 2 ∧ Sh w4 ∧ Q (.inl (some (iv 1))) w4)))) : pX 75 0 [some (.ref 0), some (iv x1), some (iv x2), some (.ref 180), none] [] w Q :=
  w_f b75 d75_0 rfl rfl rfl <| w_f b75 d75_1 rfl rfl rfl <| w_f b75 d75_2 rfl rfl rfl <| w_f b75 d75_3 rfl rfl rfl <| w_f b75 d75_4 rfl rfl rfl <| w_c b75 d75_5 rfl (pcl_v (n := 2) rfl rfl rfl (by decide +kernel) (sh_isOb hs (tlt 0 rfl) tbC_0) rfl rfl) rfl _ (hK_H (hK_I fun u2 w1 hbu2 hkw1 => w_f b75 d75_8 rfl rfl rfl <| w_las b75 d75_9 rfl hkw1.1 (tlt 180 rfl) tbC_180 (bdix (n := 1) ⟨by decide, by decide⟩ rfl) ⟨by decide, by decide⟩ <| w_j b75 d75_10 rfl (by decide +kernel) <| w_f b75 d75_21 rfl rfl rfl <| w_ri b75 d75_22 r75 (hkw1.2 _ rfl)) (fun E w4 hq => hq.elim (fun q => by
  obtain ⟨rfl, hsw4, hkw4⟩ := q
  show (5 + 3 ≤ 17 ∧ 4 < 5) ∧ pX 75 19 [some (.ref 0), some (iv x1), some (iv x2), some (.ref 180), none] [] w4 Q
  exact ⟨⟨by decide, by decide⟩, w_f b75 d75_19 rfl rfl rfl <| w_ri b75 d75_20 r75 hkw4⟩) (fun q => by
  obtain ⟨rfl, hsw4, hkw4⟩ := q
  show (5 + 3 ≤ 13 ∧ 4 < 5) ∧ pX 75 15 [some (.ref 0), some (iv x1), some (iv x2), some (.ref 180), none] [] w4 Q
  exact ⟨⟨by decide, by decide⟩, w_f b75 d75_15 rfl rfl rfl <| w_ri b75 d75_16 r75 hkw4⟩))) h
theorem e75 {w : PW} {Q : PO → PW → Prop} {x1 : Int} {x2 : Int} (hs : Sh w) (hx1 : bd x1) (hx2 : bd x2) (h : pC 74 [.ref 0, iv x1, iv x2] w (kH (kI fun u2 w1 => Sh w1 ∧ ∀ w3 : PW, w3 = sL w1 180 0 (i2L u2) → Q (.inl (some (iv 0))) w3) (fun E w4 => (E = 1 ∧ Sh w4 ∧ Q (.inl (some (iv 2))) w4) ∨ (E = 2 ∧ Sh w4 ∧ Q (.inl (some (iv 1))) w4)))) : pC 75 [.ref 0, iv x1, iv x2, .ref 180] w Q :=
  (pC_in (Nat.le_of_ble_eq_true rfl) rfl Q).mpr (v75_0 hs hx1 hx2 h)
/-! 80: PinBarrelLaw.hasPin(LPinBarrel;III[J)I -/
theorem b80 : mB 80 = cL_hasPin := rfl
theorem r80 : mR 80 = (some .int) := rfl
theorem d80_0 : decode cL_hasPin 0 = .ok (.aload 4, 2) := by decide +kernel
theorem d80_2 : decode cL_hasPin 2 = .ok (.iconst 0, 1) := by decide +kernel
theorem d80_3 : decode cL_hasPin 3 = .ok (.aload_n 0, 1) := by decide +kernel
theorem d80_4 : decode cL_hasPin 4 = .ok (.iload_n 1, 1) := by decide +kernel
theorem d80_5 : decode cL_hasPin 5 = .ok (.iload_n 2, 1) := by decide +kernel
theorem d80_6 : decode cL_hasPin 6 = .ok (.iload_n 3, 1) := by decide +kernel
theorem d80_7 : decode cL_hasPin 7 = .ok (.invokevirtual 24, 3) := by decide +kernel
theorem d80_10 : decode cL_hasPin 10 = .ok (.ifCond .eq 7, 3) := by decide +kernel
theorem d80_13 : decode cL_hasPin 13 = .ok (.lconst 1, 1) := by decide +kernel
theorem d80_14 : decode cL_hasPin 14 = .ok (.goto 4, 3) := by decide +kernel
theorem d80_17 : decode cL_hasPin 17 = .ok (.lconst 0, 1) := by decide +kernel
theorem d80_18 : decode cL_hasPin 18 = .ok (.lastore, 1) := by decide +kernel
theorem d80_19 : decode cL_hasPin 19 = .ok (.goto 11, 3) := by decide +kernel
theorem d80_24 : decode cL_hasPin 24 = .ok (.iconst 1, 1) := by decide +kernel
theorem d80_25 : decode cL_hasPin 25 = .ok (.ireturn, 1) := by decide +kernel
theorem d80_28 : decode cL_hasPin 28 = .ok (.iconst 2, 1) := by decide +kernel
theorem d80_29 : decode cL_hasPin 29 = .ok (.ireturn, 1) := by decide +kernel
theorem d80_30 : decode cL_hasPin 30 = .ok (.iconst 0, 1) := by decide +kernel
theorem d80_31 : decode cL_hasPin 31 = .ok (.ireturn, 1) := by decide +kernel
theorem v80_0 {w : PW} {Q : PO → PW → Prop} {x1 : Int} {x2 : Int} {x3 : Int} (hs : Sh w) (hx1 : bd x1) (hx2 : bd x2) (hx3 : bd x3) (h : pC 79 [.ref 0, iv x1, iv x2, iv x3] w (kH (kI fun u2 w1 => Sh w1 ∧ (u2 = 0 → ∀ w4 : PW, w4 = sL w1 180 0 ((0 : Int64)) → Q (.inl (some (iv 0))) w4) ∧ (u2 ≠ 0 → ∀ w5 : PW, w5 = sL w1 180 0 ((1 : Int64)) → Q (.inl (some (iv 0))) w5)) (fun E w6 => (E = 1 ∧ Sh w6 ∧ Q (.inl (some (iv 1))) w6) ∨ (E = 2 ∧ Sh w6 ∧ Q (.inl (some (iv 2))) w6)))) : pX 80 0 [some (.ref 0), some (iv x1), some (iv x2), some (iv x3), some (.ref 180), none] [] w Q :=
  w_f b80 d80_0 rfl rfl rfl <| w_f b80 d80_2 rfl rfl rfl <| w_f b80 d80_3 rfl rfl rfl <| w_f b80 d80_4 rfl rfl rfl <| w_f b80 d80_5 rfl rfl rfl <| w_f b80 d80_6 rfl rfl rfl <| w_c b80 d80_7 rfl (pcl_v (n := 3) rfl rfl rfl (by decide +kernel) (sh_isOb hs (tlt 0 rfl) tbC_0) rfl rfl) rfl _ (hK_H (hK_I fun u2 w1 hbu2 hkw1 => w_ifeq b80 d80_10 rfl rfl (by decide +kernel) hbu2 (fun c3 => w_f b80 d80_17 rfl rfl rfl <| w_las b80 d80_18 rfl hkw1.1 (tlt 180 rfl) tbC_180 (bdix (n := 1) ⟨by decide, by decide⟩ rfl) ⟨by decide, by decide⟩ <| w_j b80 d80_19 rfl (by decide +kernel) <| w_f b80 d80_30 rfl rfl rfl <| w_ri b80 d80_31 r80 ((hkw1.2.1 c3) _ rfl)) (fun c3 => w_f b80 d80_13 rfl rfl rfl <| w_j b80 d80_14 rfl (by decide +kernel) <| w_las b80 d80_18 rfl hkw1.1 (tlt 180 rfl) tbC_180 (bdix (n := 1) ⟨by decide, by decide⟩ rfl) ⟨by decide, by decide⟩ <| w_j b80 d80_19 rfl (by decide +kernel) <| w_f b80 d80_30 rfl rfl rfl <| w_ri b80 d80_31 r80 ((hkw1.2.2 c3) _ rfl))) (fun E w6 hq => hq.elim (fun q => by
  obtain ⟨rfl, hsw6, hkw6⟩ := q
  show (7 + 3 ≤ 22 ∧ 5 < 6) ∧ pX 80 24 [some (.ref 0), some (iv x1), some (iv x2), some (iv x3), some (.ref 180), none] [] w6 Q
  exact ⟨⟨by decide, by decide⟩, w_f b80 d80_24 rfl rfl rfl <| w_ri b80 d80_25 r80 hkw6⟩) (fun q => by
  obtain ⟨rfl, hsw6, hkw6⟩ := q
  show (7 + 3 ≤ 26 ∧ 5 < 6) ∧ pX 80 28 [some (.ref 0), some (iv x1), some (iv x2), some (iv x3), some (.ref 180), none] [] w6 Q
  exact ⟨⟨by decide, by decide⟩, w_f b80 d80_28 rfl rfl rfl <| w_ri b80 d80_29 r80 hkw6⟩))) h
theorem e80 {w : PW} {Q : PO → PW → Prop} {x1 : Int} {x2 : Int} {x3 : Int} (hs : Sh w) (hx1 : bd x1) (hx2 : bd x2) (hx3 : bd x3) (h : pC 79 [.ref 0, iv x1, iv x2, iv x3] w (kH (kI fun u2 w1 => Sh w1 ∧ (u2 = 0 → ∀ w4 : PW, w4 = sL w1 180 0 ((0 : Int64)) → Q (.inl (some (iv 0))) w4) ∧ (u2 ≠ 0 → ∀ w5 : PW, w5 = sL w1 180 0 ((1 : Int64)) → Q (.inl (some (iv 0))) w5)) (fun E w6 => (E = 1 ∧ Sh w6 ∧ Q (.inl (some (iv 1))) w6) ∨ (E = 2 ∧ Sh w6 ∧ Q (.inl (some (iv 2))) w6)))) : pC 80 [.ref 0, iv x1, iv x2, iv x3, .ref 180] w Q :=
  (pC_in (Nat.le_of_ble_eq_true rfl) rfl Q).mpr (v80_0 hs hx1 hx2 hx3 h)
/-! 83: PinBarrelLaw.pinStep(LPinBarrel;III[J)I -/
theorem b83 : mB 83 = cL_pinStep := rfl
theorem r83 : mR 83 = (some .int) := rfl
theorem d83_0 : decode cL_pinStep 0 = .ok (.aload 4, 2) := by decide +kernel
theorem d83_2 : decode cL_pinStep 2 = .ok (.iconst 0, 1) := by decide +kernel
theorem d83_3 : decode cL_pinStep 3 = .ok (.aload_n 0, 1) := by decide +kernel
theorem d83_4 : decode cL_pinStep 4 = .ok (.iload_n 1, 1) := by decide +kernel
theorem d83_5 : decode cL_pinStep 5 = .ok (.iload_n 2, 1) := by decide +kernel
theorem d83_6 : decode cL_pinStep 6 = .ok (.iload_n 3, 1) := by decide +kernel
theorem d83_7 : decode cL_pinStep 7 = .ok (.invokevirtual 28, 3) := by decide +kernel
theorem d83_10 : decode cL_pinStep 10 = .ok (.i2l, 1) := by decide +kernel
theorem d83_11 : decode cL_pinStep 11 = .ok (.lastore, 1) := by decide +kernel
theorem d83_12 : decode cL_pinStep 12 = .ok (.goto 11, 3) := by decide +kernel
theorem d83_17 : decode cL_pinStep 17 = .ok (.iconst 1, 1) := by decide +kernel
theorem d83_18 : decode cL_pinStep 18 = .ok (.ireturn, 1) := by decide +kernel
theorem d83_21 : decode cL_pinStep 21 = .ok (.iconst 2, 1) := by decide +kernel
theorem d83_22 : decode cL_pinStep 22 = .ok (.ireturn, 1) := by decide +kernel
theorem d83_23 : decode cL_pinStep 23 = .ok (.iconst 0, 1) := by decide +kernel
theorem d83_24 : decode cL_pinStep 24 = .ok (.ireturn, 1) := by decide +kernel
theorem v83_0 {w : PW} {Q : PO → PW → Prop} {x1 : Int} {x2 : Int} {x3 : Int} (hs : Sh w) (hx1 : bd x1) (hx2 : bd x2) (hx3 : bd x3) (h : pC 82 [.ref 0, iv x1, iv x2, iv x3] w (kH (kI fun u2 w1 => Sh w1 ∧ ∀ w3 : PW, w3 = sL w1 180 0 (i2L u2) → Q (.inl (some (iv 0))) w3) (fun E w4 => (E = 1 ∧ Sh w4 ∧ Q (.inl (some (iv 1))) w4) ∨ (E = 2 ∧ Sh w4 ∧ Q (.inl (some (iv 2))) w4)))) : pX 83 0 [some (.ref 0), some (iv x1), some (iv x2), some (iv x3), some (.ref 180), none] [] w Q :=
  w_f b83 d83_0 rfl rfl rfl <| w_f b83 d83_2 rfl rfl rfl <| w_f b83 d83_3 rfl rfl rfl <| w_f b83 d83_4 rfl rfl rfl <| w_f b83 d83_5 rfl rfl rfl <| w_f b83 d83_6 rfl rfl rfl <| w_c b83 d83_7 rfl (pcl_v (n := 3) rfl rfl rfl (by decide +kernel) (sh_isOb hs (tlt 0 rfl) tbC_0) rfl rfl) rfl _ (hK_H (hK_I fun u2 w1 hbu2 hkw1 => w_f b83 d83_10 rfl rfl rfl <| w_las b83 d83_11 rfl hkw1.1 (tlt 180 rfl) tbC_180 (bdix (n := 1) ⟨by decide, by decide⟩ rfl) ⟨by decide, by decide⟩ <| w_j b83 d83_12 rfl (by decide +kernel) <| w_f b83 d83_23 rfl rfl rfl <| w_ri b83 d83_24 r83 (hkw1.2 _ rfl)) (fun E w4 hq => hq.elim (fun q => by
  obtain ⟨rfl, hsw4, hkw4⟩ := q
  show (7 + 3 ≤ 15 ∧ 5 < 6) ∧ pX 83 17 [some (.ref 0), some (iv x1), some (iv x2), some (iv x3), some (.ref 180), none] [] w4 Q
  exact ⟨⟨by decide, by decide⟩, w_f b83 d83_17 rfl rfl rfl <| w_ri b83 d83_18 r83 hkw4⟩) (fun q => by
  obtain ⟨rfl, hsw4, hkw4⟩ := q
  show (7 + 3 ≤ 19 ∧ 5 < 6) ∧ pX 83 21 [some (.ref 0), some (iv x1), some (iv x2), some (iv x3), some (.ref 180), none] [] w4 Q
  exact ⟨⟨by decide, by decide⟩, w_f b83 d83_21 rfl rfl rfl <| w_ri b83 d83_22 r83 hkw4⟩))) h
theorem e83 {w : PW} {Q : PO → PW → Prop} {x1 : Int} {x2 : Int} {x3 : Int} (hs : Sh w) (hx1 : bd x1) (hx2 : bd x2) (hx3 : bd x3) (h : pC 82 [.ref 0, iv x1, iv x2, iv x3] w (kH (kI fun u2 w1 => Sh w1 ∧ ∀ w3 : PW, w3 = sL w1 180 0 (i2L u2) → Q (.inl (some (iv 0))) w3) (fun E w4 => (E = 1 ∧ Sh w4 ∧ Q (.inl (some (iv 1))) w4) ∨ (E = 2 ∧ Sh w4 ∧ Q (.inl (some (iv 2))) w4)))) : pC 83 [.ref 0, iv x1, iv x2, iv x3, .ref 180] w Q :=
  (pC_in (Nat.le_of_ble_eq_true rfl) rfl Q).mpr (v83_0 hs hx1 hx2 hx3 h)
/-! 86: PinBarrelLaw.chord(LPinBarrel;II[J)I -/
theorem b86 : mB 86 = cL_chord := rfl
theorem r86 : mR 86 = (some .int) := rfl
theorem d86_0 : decode cL_chord 0 = .ok (.aload_n 3, 1) := by decide +kernel
theorem d86_1 : decode cL_chord 1 = .ok (.iconst 0, 1) := by decide +kernel
theorem d86_2 : decode cL_chord 2 = .ok (.aload_n 0, 1) := by decide +kernel
theorem d86_3 : decode cL_chord 3 = .ok (.iload_n 1, 1) := by decide +kernel
theorem d86_4 : decode cL_chord 4 = .ok (.iload_n 2, 1) := by decide +kernel
theorem d86_5 : decode cL_chord 5 = .ok (.invokevirtual 32, 3) := by decide +kernel
theorem d86_8 : decode cL_chord 8 = .ok (.i2l, 1) := by decide +kernel
theorem d86_9 : decode cL_chord 9 = .ok (.lastore, 1) := by decide +kernel
theorem d86_10 : decode cL_chord 10 = .ok (.goto 7, 3) := by decide +kernel
theorem d86_15 : decode cL_chord 15 = .ok (.iconst 1, 1) := by decide +kernel
theorem d86_16 : decode cL_chord 16 = .ok (.ireturn, 1) := by decide +kernel
theorem d86_17 : decode cL_chord 17 = .ok (.iconst 0, 1) := by decide +kernel
theorem d86_18 : decode cL_chord 18 = .ok (.ireturn, 1) := by decide +kernel
theorem v86_0 {w : PW} {Q : PO → PW → Prop} {x1 : Int} {x2 : Int} (hs : Sh w) (hx1 : bd x1) (hx2 : bd x2) (h : pC 85 [.ref 0, iv x1, iv x2] w (kH (kI fun u2 w1 => Sh w1 ∧ ∀ w3 : PW, w3 = sL w1 180 0 (i2L u2) → Q (.inl (some (iv 0))) w3) (fun E w4 => (E = 1 ∧ Sh w4 ∧ Q (.inl (some (iv 1))) w4)))) : pX 86 0 [some (.ref 0), some (iv x1), some (iv x2), some (.ref 180), none] [] w Q :=
  w_f b86 d86_0 rfl rfl rfl <| w_f b86 d86_1 rfl rfl rfl <| w_f b86 d86_2 rfl rfl rfl <| w_f b86 d86_3 rfl rfl rfl <| w_f b86 d86_4 rfl rfl rfl <| w_c b86 d86_5 rfl (pcl_v (n := 2) rfl rfl rfl (by decide +kernel) (sh_isOb hs (tlt 0 rfl) tbC_0) rfl rfl) rfl _ (hK_H (hK_I fun u2 w1 hbu2 hkw1 => w_f b86 d86_8 rfl rfl rfl <| w_las b86 d86_9 rfl hkw1.1 (tlt 180 rfl) tbC_180 (bdix (n := 1) ⟨by decide, by decide⟩ rfl) ⟨by decide, by decide⟩ <| w_j b86 d86_10 rfl (by decide +kernel) <| w_f b86 d86_17 rfl rfl rfl <| w_ri b86 d86_18 r86 (hkw1.2 _ rfl)) (fun E w4 => (fun q => by
  obtain ⟨rfl, hsw4, hkw4⟩ := q
  show (5 + 3 ≤ 13 ∧ 4 < 5) ∧ pX 86 15 [some (.ref 0), some (iv x1), some (iv x2), some (.ref 180), none] [] w4 Q
  exact ⟨⟨by decide, by decide⟩, w_f b86 d86_15 rfl rfl rfl <| w_ri b86 d86_16 r86 hkw4⟩))) h
theorem e86 {w : PW} {Q : PO → PW → Prop} {x1 : Int} {x2 : Int} (hs : Sh w) (hx1 : bd x1) (hx2 : bd x2) (h : pC 85 [.ref 0, iv x1, iv x2] w (kH (kI fun u2 w1 => Sh w1 ∧ ∀ w3 : PW, w3 = sL w1 180 0 (i2L u2) → Q (.inl (some (iv 0))) w3) (fun E w4 => (E = 1 ∧ Sh w4 ∧ Q (.inl (some (iv 1))) w4)))) : pC 86 [.ref 0, iv x1, iv x2, .ref 180] w Q :=
  (pC_in (Nat.le_of_ble_eq_true rfl) rfl Q).mpr (v86_0 hs hx1 hx2 h)
/-! 89: PinBarrelLaw.fullest(LPinBarrel;I[J)I -/
theorem b89 : mB 89 = cL_fullest := rfl
theorem r89 : mR 89 = (some .int) := rfl
theorem d89_0 : decode cL_fullest 0 = .ok (.aload_n 2, 1) := by decide +kernel
theorem d89_1 : decode cL_fullest 1 = .ok (.iconst 0, 1) := by decide +kernel
theorem d89_2 : decode cL_fullest 2 = .ok (.aload_n 0, 1) := by decide +kernel
theorem d89_3 : decode cL_fullest 3 = .ok (.iload_n 1, 1) := by decide +kernel
theorem d89_4 : decode cL_fullest 4 = .ok (.invokevirtual 35, 3) := by decide +kernel
theorem d89_7 : decode cL_fullest 7 = .ok (.i2l, 1) := by decide +kernel
theorem d89_8 : decode cL_fullest 8 = .ok (.lastore, 1) := by decide +kernel
theorem d89_9 : decode cL_fullest 9 = .ok (.goto 6, 3) := by decide +kernel
theorem d89_13 : decode cL_fullest 13 = .ok (.iconst 1, 1) := by decide +kernel
theorem d89_14 : decode cL_fullest 14 = .ok (.ireturn, 1) := by decide +kernel
theorem d89_15 : decode cL_fullest 15 = .ok (.iconst 0, 1) := by decide +kernel
theorem d89_16 : decode cL_fullest 16 = .ok (.ireturn, 1) := by decide +kernel
theorem v89_0 {w : PW} {Q : PO → PW → Prop} {x1 : Int} (hs : Sh w) (hx1 : bd x1) (h : pC 88 [.ref 0, iv x1] w (kH (kI fun u2 w1 => Sh w1 ∧ ∀ w3 : PW, w3 = sL w1 180 0 (i2L u2) → Q (.inl (some (iv 0))) w3) (fun E w4 => (E = 1 ∧ Sh w4 ∧ Q (.inl (some (iv 1))) w4)))) : pX 89 0 [some (.ref 0), some (iv x1), some (.ref 180), none] [] w Q :=
  w_f b89 d89_0 rfl rfl rfl <| w_f b89 d89_1 rfl rfl rfl <| w_f b89 d89_2 rfl rfl rfl <| w_f b89 d89_3 rfl rfl rfl <| w_c b89 d89_4 rfl (pcl_v (n := 1) rfl rfl rfl (by decide +kernel) (sh_isOb hs (tlt 0 rfl) tbC_0) rfl rfl) rfl _ (hK_H (hK_I fun u2 w1 hbu2 hkw1 => w_f b89 d89_7 rfl rfl rfl <| w_las b89 d89_8 rfl hkw1.1 (tlt 180 rfl) tbC_180 (bdix (n := 1) ⟨by decide, by decide⟩ rfl) ⟨by decide, by decide⟩ <| w_j b89 d89_9 rfl (by decide +kernel) <| w_f b89 d89_15 rfl rfl rfl <| w_ri b89 d89_16 r89 (hkw1.2 _ rfl)) (fun E w4 => (fun q => by
  obtain ⟨rfl, hsw4, hkw4⟩ := q
  show (4 + 3 ≤ 12 ∧ 3 < 4) ∧ pX 89 13 [some (.ref 0), some (iv x1), some (.ref 180), none] [] w4 Q
  exact ⟨⟨by decide, by decide⟩, w_f b89 d89_13 rfl rfl rfl <| w_ri b89 d89_14 r89 hkw4⟩))) h
theorem e89 {w : PW} {Q : PO → PW → Prop} {x1 : Int} (hs : Sh w) (hx1 : bd x1) (h : pC 88 [.ref 0, iv x1] w (kH (kI fun u2 w1 => Sh w1 ∧ ∀ w3 : PW, w3 = sL w1 180 0 (i2L u2) → Q (.inl (some (iv 0))) w3) (fun E w4 => (E = 1 ∧ Sh w4 ∧ Q (.inl (some (iv 1))) w4)))) : pC 89 [.ref 0, iv x1, .ref 180] w Q :=
  (pC_in (Nat.le_of_ble_eq_true rfl) rfl Q).mpr (v89_0 hs hx1 h)
/-! 94: PinBarrelLaw.conflicts(LPinBarrel;I[J)I -/
theorem b94 : mB 94 = cL_conflicts := rfl
theorem r94 : mR 94 = (some .int) := rfl
theorem d94_0 : decode cL_conflicts 0 = .ok (.aload_n 2, 1) := by decide +kernel
theorem d94_1 : decode cL_conflicts 1 = .ok (.iconst 0, 1) := by decide +kernel
theorem d94_2 : decode cL_conflicts 2 = .ok (.aload_n 0, 1) := by decide +kernel
theorem d94_3 : decode cL_conflicts 3 = .ok (.iload_n 1, 1) := by decide +kernel
theorem d94_4 : decode cL_conflicts 4 = .ok (.invokevirtual 38, 3) := by decide +kernel
theorem d94_7 : decode cL_conflicts 7 = .ok (.i2l, 1) := by decide +kernel
theorem d94_8 : decode cL_conflicts 8 = .ok (.lastore, 1) := by decide +kernel
theorem d94_9 : decode cL_conflicts 9 = .ok (.goto 6, 3) := by decide +kernel
theorem d94_13 : decode cL_conflicts 13 = .ok (.iconst 1, 1) := by decide +kernel
theorem d94_14 : decode cL_conflicts 14 = .ok (.ireturn, 1) := by decide +kernel
theorem d94_15 : decode cL_conflicts 15 = .ok (.iconst 0, 1) := by decide +kernel
theorem d94_16 : decode cL_conflicts 16 = .ok (.ireturn, 1) := by decide +kernel
theorem v94_0 {w : PW} {Q : PO → PW → Prop} {x1 : Int} (hs : Sh w) (hx1 : bd x1) (h : pC 93 [.ref 0, iv x1] w (kH (kI fun u2 w1 => Sh w1 ∧ ∀ w3 : PW, w3 = sL w1 180 0 (i2L u2) → Q (.inl (some (iv 0))) w3) (fun E w4 => (E = 1 ∧ Sh w4 ∧ Q (.inl (some (iv 1))) w4)))) : pX 94 0 [some (.ref 0), some (iv x1), some (.ref 180), none] [] w Q :=
  w_f b94 d94_0 rfl rfl rfl <| w_f b94 d94_1 rfl rfl rfl <| w_f b94 d94_2 rfl rfl rfl <| w_f b94 d94_3 rfl rfl rfl <| w_c b94 d94_4 rfl (pcl_v (n := 1) rfl rfl rfl (by decide +kernel) (sh_isOb hs (tlt 0 rfl) tbC_0) rfl rfl) rfl _ (hK_H (hK_I fun u2 w1 hbu2 hkw1 => w_f b94 d94_7 rfl rfl rfl <| w_las b94 d94_8 rfl hkw1.1 (tlt 180 rfl) tbC_180 (bdix (n := 1) ⟨by decide, by decide⟩ rfl) ⟨by decide, by decide⟩ <| w_j b94 d94_9 rfl (by decide +kernel) <| w_f b94 d94_15 rfl rfl rfl <| w_ri b94 d94_16 r94 (hkw1.2 _ rfl)) (fun E w4 => (fun q => by
  obtain ⟨rfl, hsw4, hkw4⟩ := q
  show (4 + 3 ≤ 12 ∧ 3 < 4) ∧ pX 94 13 [some (.ref 0), some (iv x1), some (.ref 180), none] [] w4 Q
  exact ⟨⟨by decide, by decide⟩, w_f b94 d94_13 rfl rfl rfl <| w_ri b94 d94_14 r94 hkw4⟩))) h
theorem e94 {w : PW} {Q : PO → PW → Prop} {x1 : Int} (hs : Sh w) (hx1 : bd x1) (h : pC 93 [.ref 0, iv x1] w (kH (kI fun u2 w1 => Sh w1 ∧ ∀ w3 : PW, w3 = sL w1 180 0 (i2L u2) → Q (.inl (some (iv 0))) w3) (fun E w4 => (E = 1 ∧ Sh w4 ∧ Q (.inl (some (iv 1))) w4)))) : pC 94 [.ref 0, iv x1, .ref 180] w Q :=
  (pC_in (Nat.le_of_ble_eq_true rfl) rfl Q).mpr (v94_0 hs hx1 h)
/-! 98: PinBarrelLaw.conflict(LPinBarrel;III[J)I -/
theorem b98 : mB 98 = cL_conflict := rfl
theorem r98 : mR 98 = (some .int) := rfl
theorem d98_0 : decode cL_conflict 0 = .ok (.aload 4, 2) := by decide +kernel
theorem d98_2 : decode cL_conflict 2 = .ok (.iconst 0, 1) := by decide +kernel
theorem d98_3 : decode cL_conflict 3 = .ok (.aload_n 0, 1) := by decide +kernel
theorem d98_4 : decode cL_conflict 4 = .ok (.iload_n 1, 1) := by decide +kernel
theorem d98_5 : decode cL_conflict 5 = .ok (.iload_n 2, 1) := by decide +kernel
theorem d98_6 : decode cL_conflict 6 = .ok (.iload_n 3, 1) := by decide +kernel
theorem d98_7 : decode cL_conflict 7 = .ok (.invokevirtual 41, 3) := by decide +kernel
theorem d98_10 : decode cL_conflict 10 = .ok (.i2l, 1) := by decide +kernel
theorem d98_11 : decode cL_conflict 11 = .ok (.lastore, 1) := by decide +kernel
theorem d98_12 : decode cL_conflict 12 = .ok (.goto 7, 3) := by decide +kernel
theorem d98_17 : decode cL_conflict 17 = .ok (.iconst 1, 1) := by decide +kernel
theorem d98_18 : decode cL_conflict 18 = .ok (.ireturn, 1) := by decide +kernel
theorem d98_19 : decode cL_conflict 19 = .ok (.iconst 0, 1) := by decide +kernel
theorem d98_20 : decode cL_conflict 20 = .ok (.ireturn, 1) := by decide +kernel
theorem v98_0 {w : PW} {Q : PO → PW → Prop} {x1 : Int} {x2 : Int} {x3 : Int} (hs : Sh w) (hx1 : bd x1) (hx2 : bd x2) (hx3 : bd x3) (h : pC 97 [.ref 0, iv x1, iv x2, iv x3] w (kH (kI fun u2 w1 => Sh w1 ∧ ∀ w3 : PW, w3 = sL w1 180 0 (i2L u2) → Q (.inl (some (iv 0))) w3) (fun E w4 => (E = 1 ∧ Sh w4 ∧ Q (.inl (some (iv 1))) w4)))) : pX 98 0 [some (.ref 0), some (iv x1), some (iv x2), some (iv x3), some (.ref 180), none] [] w Q :=
  w_f b98 d98_0 rfl rfl rfl <| w_f b98 d98_2 rfl rfl rfl <| w_f b98 d98_3 rfl rfl rfl <| w_f b98 d98_4 rfl rfl rfl <| w_f b98 d98_5 rfl rfl rfl <| w_f b98 d98_6 rfl rfl rfl <| w_c b98 d98_7 rfl (pcl_v (n := 3) rfl rfl rfl (by decide +kernel) (sh_isOb hs (tlt 0 rfl) tbC_0) rfl rfl) rfl _ (hK_H (hK_I fun u2 w1 hbu2 hkw1 => w_f b98 d98_10 rfl rfl rfl <| w_las b98 d98_11 rfl hkw1.1 (tlt 180 rfl) tbC_180 (bdix (n := 1) ⟨by decide, by decide⟩ rfl) ⟨by decide, by decide⟩ <| w_j b98 d98_12 rfl (by decide +kernel) <| w_f b98 d98_19 rfl rfl rfl <| w_ri b98 d98_20 r98 (hkw1.2 _ rfl)) (fun E w4 => (fun q => by
  obtain ⟨rfl, hsw4, hkw4⟩ := q
  show (7 + 3 ≤ 15 ∧ 5 < 6) ∧ pX 98 17 [some (.ref 0), some (iv x1), some (iv x2), some (iv x3), some (.ref 180), none] [] w4 Q
  exact ⟨⟨by decide, by decide⟩, w_f b98 d98_17 rfl rfl rfl <| w_ri b98 d98_18 r98 hkw4⟩))) h
theorem e98 {w : PW} {Q : PO → PW → Prop} {x1 : Int} {x2 : Int} {x3 : Int} (hs : Sh w) (hx1 : bd x1) (hx2 : bd x2) (hx3 : bd x3) (h : pC 97 [.ref 0, iv x1, iv x2, iv x3] w (kH (kI fun u2 w1 => Sh w1 ∧ ∀ w3 : PW, w3 = sL w1 180 0 (i2L u2) → Q (.inl (some (iv 0))) w3) (fun E w4 => (E = 1 ∧ Sh w4 ∧ Q (.inl (some (iv 1))) w4)))) : pC 98 [.ref 0, iv x1, iv x2, iv x3, .ref 180] w Q :=
  (pC_in (Nat.le_of_ble_eq_true rfl) rfl Q).mpr (v98_0 hs hx1 hx2 hx3 h)
/-! 105: PinBarrelLaw.collision(LPinBarrel;II[J)I -/
theorem b105 : mB 105 = cL_collision := rfl
theorem r105 : mR 105 = (some .int) := rfl
theorem d105_0 : decode cL_collision 0 = .ok (.aload_n 3, 1) := by decide +kernel
theorem d105_1 : decode cL_collision 1 = .ok (.iconst 0, 1) := by decide +kernel
theorem d105_2 : decode cL_collision 2 = .ok (.aload_n 0, 1) := by decide +kernel
theorem d105_3 : decode cL_collision 3 = .ok (.iload_n 1, 1) := by decide +kernel
theorem d105_4 : decode cL_collision 4 = .ok (.iload_n 2, 1) := by decide +kernel
theorem d105_5 : decode cL_collision 5 = .ok (.invokevirtual 44, 3) := by decide +kernel
theorem d105_8 : decode cL_collision 8 = .ok (.i2l, 1) := by decide +kernel
theorem d105_9 : decode cL_collision 9 = .ok (.lastore, 1) := by decide +kernel
theorem d105_10 : decode cL_collision 10 = .ok (.goto 7, 3) := by decide +kernel
theorem d105_15 : decode cL_collision 15 = .ok (.iconst 1, 1) := by decide +kernel
theorem d105_16 : decode cL_collision 16 = .ok (.ireturn, 1) := by decide +kernel
theorem d105_17 : decode cL_collision 17 = .ok (.iconst 0, 1) := by decide +kernel
theorem d105_18 : decode cL_collision 18 = .ok (.ireturn, 1) := by decide +kernel
theorem v105_0 {w : PW} {Q : PO → PW → Prop} {x1 : Int} {x2 : Int} (hs : Sh w) (hx1 : bd x1) (hx2 : bd x2) (h : pC 104 [.ref 0, iv x1, iv x2] w (kH (kI fun u2 w1 => Sh w1 ∧ ∀ w3 : PW, w3 = sL w1 180 0 (i2L u2) → Q (.inl (some (iv 0))) w3) (fun E w4 => (E = 1 ∧ Sh w4 ∧ Q (.inl (some (iv 1))) w4)))) : pX 105 0 [some (.ref 0), some (iv x1), some (iv x2), some (.ref 180), none] [] w Q :=
  w_f b105 d105_0 rfl rfl rfl <| w_f b105 d105_1 rfl rfl rfl <| w_f b105 d105_2 rfl rfl rfl <| w_f b105 d105_3 rfl rfl rfl <| w_f b105 d105_4 rfl rfl rfl <| w_c b105 d105_5 rfl (pcl_v (n := 2) rfl rfl rfl (by decide +kernel) (sh_isOb hs (tlt 0 rfl) tbC_0) rfl rfl) rfl _ (hK_H (hK_I fun u2 w1 hbu2 hkw1 => w_f b105 d105_8 rfl rfl rfl <| w_las b105 d105_9 rfl hkw1.1 (tlt 180 rfl) tbC_180 (bdix (n := 1) ⟨by decide, by decide⟩ rfl) ⟨by decide, by decide⟩ <| w_j b105 d105_10 rfl (by decide +kernel) <| w_f b105 d105_17 rfl rfl rfl <| w_ri b105 d105_18 r105 (hkw1.2 _ rfl)) (fun E w4 => (fun q => by
  obtain ⟨rfl, hsw4, hkw4⟩ := q
  show (5 + 3 ≤ 13 ∧ 4 < 5) ∧ pX 105 15 [some (.ref 0), some (iv x1), some (iv x2), some (.ref 180), none] [] w4 Q
  exact ⟨⟨by decide, by decide⟩, w_f b105 d105_15 rfl rfl rfl <| w_ri b105 d105_16 r105 hkw4⟩))) h
theorem e105 {w : PW} {Q : PO → PW → Prop} {x1 : Int} {x2 : Int} (hs : Sh w) (hx1 : bd x1) (hx2 : bd x2) (h : pC 104 [.ref 0, iv x1, iv x2] w (kH (kI fun u2 w1 => Sh w1 ∧ ∀ w3 : PW, w3 = sL w1 180 0 (i2L u2) → Q (.inl (some (iv 0))) w3) (fun E w4 => (E = 1 ∧ Sh w4 ∧ Q (.inl (some (iv 1))) w4)))) : pC 105 [.ref 0, iv x1, iv x2, .ref 180] w Q :=
  (pC_in (Nat.le_of_ble_eq_true rfl) rfl Q).mpr (v105_0 hs hx1 hx2 h)
/-! 109: PinBarrelLaw.missing(LPinBarrel;I[J)I -/
theorem b109 : mB 109 = cL_missing := rfl
theorem r109 : mR 109 = (some .int) := rfl
theorem d109_0 : decode cL_missing 0 = .ok (.aload_n 2, 1) := by decide +kernel
theorem d109_1 : decode cL_missing 1 = .ok (.iconst 0, 1) := by decide +kernel
theorem d109_2 : decode cL_missing 2 = .ok (.aload_n 0, 1) := by decide +kernel
theorem d109_3 : decode cL_missing 3 = .ok (.iload_n 1, 1) := by decide +kernel
theorem d109_4 : decode cL_missing 4 = .ok (.invokevirtual 47, 3) := by decide +kernel
theorem d109_7 : decode cL_missing 7 = .ok (.i2l, 1) := by decide +kernel
theorem d109_8 : decode cL_missing 8 = .ok (.lastore, 1) := by decide +kernel
theorem d109_9 : decode cL_missing 9 = .ok (.goto 6, 3) := by decide +kernel
theorem d109_13 : decode cL_missing 13 = .ok (.iconst 1, 1) := by decide +kernel
theorem d109_14 : decode cL_missing 14 = .ok (.ireturn, 1) := by decide +kernel
theorem d109_15 : decode cL_missing 15 = .ok (.iconst 0, 1) := by decide +kernel
theorem d109_16 : decode cL_missing 16 = .ok (.ireturn, 1) := by decide +kernel
theorem v109_0 {w : PW} {Q : PO → PW → Prop} {x1 : Int} (hs : Sh w) (hx1 : bd x1) (h : pC 108 [.ref 0, iv x1] w (kH (kI fun u2 w1 => Sh w1 ∧ ∀ w3 : PW, w3 = sL w1 180 0 (i2L u2) → Q (.inl (some (iv 0))) w3) (fun E w4 => (E = 1 ∧ Sh w4 ∧ Q (.inl (some (iv 1))) w4)))) : pX 109 0 [some (.ref 0), some (iv x1), some (.ref 180), none] [] w Q :=
  w_f b109 d109_0 rfl rfl rfl <| w_f b109 d109_1 rfl rfl rfl <| w_f b109 d109_2 rfl rfl rfl <| w_f b109 d109_3 rfl rfl rfl <| w_c b109 d109_4 rfl (pcl_v (n := 1) rfl rfl rfl (by decide +kernel) (sh_isOb hs (tlt 0 rfl) tbC_0) rfl rfl) rfl _ (hK_H (hK_I fun u2 w1 hbu2 hkw1 => w_f b109 d109_7 rfl rfl rfl <| w_las b109 d109_8 rfl hkw1.1 (tlt 180 rfl) tbC_180 (bdix (n := 1) ⟨by decide, by decide⟩ rfl) ⟨by decide, by decide⟩ <| w_j b109 d109_9 rfl (by decide +kernel) <| w_f b109 d109_15 rfl rfl rfl <| w_ri b109 d109_16 r109 (hkw1.2 _ rfl)) (fun E w4 => (fun q => by
  obtain ⟨rfl, hsw4, hkw4⟩ := q
  show (4 + 3 ≤ 12 ∧ 3 < 4) ∧ pX 109 13 [some (.ref 0), some (iv x1), some (.ref 180), none] [] w4 Q
  exact ⟨⟨by decide, by decide⟩, w_f b109 d109_13 rfl rfl rfl <| w_ri b109 d109_14 r109 hkw4⟩))) h
theorem e109 {w : PW} {Q : PO → PW → Prop} {x1 : Int} (hs : Sh w) (hx1 : bd x1) (h : pC 108 [.ref 0, iv x1] w (kH (kI fun u2 w1 => Sh w1 ∧ ∀ w3 : PW, w3 = sL w1 180 0 (i2L u2) → Q (.inl (some (iv 0))) w3) (fun E w4 => (E = 1 ∧ Sh w4 ∧ Q (.inl (some (iv 1))) w4)))) : pC 109 [.ref 0, iv x1, .ref 180] w Q :=
  (pC_in (Nat.le_of_ble_eq_true rfl) rfl Q).mpr (v109_0 hs hx1 h)
/-! 111: PinBarrelLaw.extra(LPinBarrel;I[J)I -/
theorem b111 : mB 111 = cL_extra := rfl
theorem r111 : mR 111 = (some .int) := rfl
theorem d111_0 : decode cL_extra 0 = .ok (.aload_n 2, 1) := by decide +kernel
theorem d111_1 : decode cL_extra 1 = .ok (.iconst 0, 1) := by decide +kernel
theorem d111_2 : decode cL_extra 2 = .ok (.aload_n 0, 1) := by decide +kernel
theorem d111_3 : decode cL_extra 3 = .ok (.iload_n 1, 1) := by decide +kernel
theorem d111_4 : decode cL_extra 4 = .ok (.invokevirtual 50, 3) := by decide +kernel
theorem d111_7 : decode cL_extra 7 = .ok (.i2l, 1) := by decide +kernel
theorem d111_8 : decode cL_extra 8 = .ok (.lastore, 1) := by decide +kernel
theorem d111_9 : decode cL_extra 9 = .ok (.goto 6, 3) := by decide +kernel
theorem d111_13 : decode cL_extra 13 = .ok (.iconst 1, 1) := by decide +kernel
theorem d111_14 : decode cL_extra 14 = .ok (.ireturn, 1) := by decide +kernel
theorem d111_15 : decode cL_extra 15 = .ok (.iconst 0, 1) := by decide +kernel
theorem d111_16 : decode cL_extra 16 = .ok (.ireturn, 1) := by decide +kernel
theorem v111_0 {w : PW} {Q : PO → PW → Prop} {x1 : Int} (hs : Sh w) (hx1 : bd x1) (h : pC 110 [.ref 0, iv x1] w (kH (kI fun u2 w1 => Sh w1 ∧ ∀ w3 : PW, w3 = sL w1 180 0 (i2L u2) → Q (.inl (some (iv 0))) w3) (fun E w4 => (E = 1 ∧ Sh w4 ∧ Q (.inl (some (iv 1))) w4)))) : pX 111 0 [some (.ref 0), some (iv x1), some (.ref 180), none] [] w Q :=
  w_f b111 d111_0 rfl rfl rfl <| w_f b111 d111_1 rfl rfl rfl <| w_f b111 d111_2 rfl rfl rfl <| w_f b111 d111_3 rfl rfl rfl <| w_c b111 d111_4 rfl (pcl_v (n := 1) rfl rfl rfl (by decide +kernel) (sh_isOb hs (tlt 0 rfl) tbC_0) rfl rfl) rfl _ (hK_H (hK_I fun u2 w1 hbu2 hkw1 => w_f b111 d111_7 rfl rfl rfl <| w_las b111 d111_8 rfl hkw1.1 (tlt 180 rfl) tbC_180 (bdix (n := 1) ⟨by decide, by decide⟩ rfl) ⟨by decide, by decide⟩ <| w_j b111 d111_9 rfl (by decide +kernel) <| w_f b111 d111_15 rfl rfl rfl <| w_ri b111 d111_16 r111 (hkw1.2 _ rfl)) (fun E w4 => (fun q => by
  obtain ⟨rfl, hsw4, hkw4⟩ := q
  show (4 + 3 ≤ 12 ∧ 3 < 4) ∧ pX 111 13 [some (.ref 0), some (iv x1), some (.ref 180), none] [] w4 Q
  exact ⟨⟨by decide, by decide⟩, w_f b111 d111_13 rfl rfl rfl <| w_ri b111 d111_14 r111 hkw4⟩))) h
theorem e111 {w : PW} {Q : PO → PW → Prop} {x1 : Int} (hs : Sh w) (hx1 : bd x1) (h : pC 110 [.ref 0, iv x1] w (kH (kI fun u2 w1 => Sh w1 ∧ ∀ w3 : PW, w3 = sL w1 180 0 (i2L u2) → Q (.inl (some (iv 0))) w3) (fun E w4 => (E = 1 ∧ Sh w4 ∧ Q (.inl (some (iv 1))) w4)))) : pC 111 [.ref 0, iv x1, .ref 180] w Q :=
  (pC_in (Nat.le_of_ble_eq_true rfl) rfl Q).mpr (v111_0 hs hx1 h)
/-! 114: PinBarrelLaw.isClean(LPinBarrel;I[J)I -/
theorem b114 : mB 114 = cL_isClean := rfl
theorem r114 : mR 114 = (some .int) := rfl
theorem d114_0 : decode cL_isClean 0 = .ok (.aload_n 2, 1) := by decide +kernel
theorem d114_1 : decode cL_isClean 1 = .ok (.iconst 0, 1) := by decide +kernel
theorem d114_2 : decode cL_isClean 2 = .ok (.aload_n 0, 1) := by decide +kernel
theorem d114_3 : decode cL_isClean 3 = .ok (.iload_n 1, 1) := by decide +kernel
theorem d114_4 : decode cL_isClean 4 = .ok (.invokevirtual 53, 3) := by decide +kernel
theorem d114_7 : decode cL_isClean 7 = .ok (.ifCond .eq 7, 3) := by decide +kernel
theorem d114_10 : decode cL_isClean 10 = .ok (.lconst 1, 1) := by decide +kernel
theorem d114_11 : decode cL_isClean 11 = .ok (.goto 4, 3) := by decide +kernel
theorem d114_14 : decode cL_isClean 14 = .ok (.lconst 0, 1) := by decide +kernel
theorem d114_15 : decode cL_isClean 15 = .ok (.lastore, 1) := by decide +kernel
theorem d114_16 : decode cL_isClean 16 = .ok (.goto 6, 3) := by decide +kernel
theorem d114_20 : decode cL_isClean 20 = .ok (.iconst 1, 1) := by decide +kernel
theorem d114_21 : decode cL_isClean 21 = .ok (.ireturn, 1) := by decide +kernel
theorem d114_22 : decode cL_isClean 22 = .ok (.iconst 0, 1) := by decide +kernel
theorem d114_23 : decode cL_isClean 23 = .ok (.ireturn, 1) := by decide +kernel
theorem v114_0 {w : PW} {Q : PO → PW → Prop} {x1 : Int} (hs : Sh w) (hx1 : bd x1) (h : pC 113 [.ref 0, iv x1] w (kH (kI fun u2 w1 => Sh w1 ∧ (u2 = 0 → ∀ w4 : PW, w4 = sL w1 180 0 ((0 : Int64)) → Q (.inl (some (iv 0))) w4) ∧ (u2 ≠ 0 → ∀ w5 : PW, w5 = sL w1 180 0 ((1 : Int64)) → Q (.inl (some (iv 0))) w5)) (fun E w6 => (E = 1 ∧ Sh w6 ∧ Q (.inl (some (iv 1))) w6)))) : pX 114 0 [some (.ref 0), some (iv x1), some (.ref 180), none] [] w Q :=
  w_f b114 d114_0 rfl rfl rfl <| w_f b114 d114_1 rfl rfl rfl <| w_f b114 d114_2 rfl rfl rfl <| w_f b114 d114_3 rfl rfl rfl <| w_c b114 d114_4 rfl (pcl_v (n := 1) rfl rfl rfl (by decide +kernel) (sh_isOb hs (tlt 0 rfl) tbC_0) rfl rfl) rfl _ (hK_H (hK_I fun u2 w1 hbu2 hkw1 => w_ifeq b114 d114_7 rfl rfl (by decide +kernel) hbu2 (fun c3 => w_f b114 d114_14 rfl rfl rfl <| w_las b114 d114_15 rfl hkw1.1 (tlt 180 rfl) tbC_180 (bdix (n := 1) ⟨by decide, by decide⟩ rfl) ⟨by decide, by decide⟩ <| w_j b114 d114_16 rfl (by decide +kernel) <| w_f b114 d114_22 rfl rfl rfl <| w_ri b114 d114_23 r114 ((hkw1.2.1 c3) _ rfl)) (fun c3 => w_f b114 d114_10 rfl rfl rfl <| w_j b114 d114_11 rfl (by decide +kernel) <| w_las b114 d114_15 rfl hkw1.1 (tlt 180 rfl) tbC_180 (bdix (n := 1) ⟨by decide, by decide⟩ rfl) ⟨by decide, by decide⟩ <| w_j b114 d114_16 rfl (by decide +kernel) <| w_f b114 d114_22 rfl rfl rfl <| w_ri b114 d114_23 r114 ((hkw1.2.2 c3) _ rfl))) (fun E w6 => (fun q => by
  obtain ⟨rfl, hsw6, hkw6⟩ := q
  show (4 + 3 ≤ 19 ∧ 3 < 4) ∧ pX 114 20 [some (.ref 0), some (iv x1), some (.ref 180), none] [] w6 Q
  exact ⟨⟨by decide, by decide⟩, w_f b114 d114_20 rfl rfl rfl <| w_ri b114 d114_21 r114 hkw6⟩))) h
theorem e114 {w : PW} {Q : PO → PW → Prop} {x1 : Int} (hs : Sh w) (hx1 : bd x1) (h : pC 113 [.ref 0, iv x1] w (kH (kI fun u2 w1 => Sh w1 ∧ (u2 = 0 → ∀ w4 : PW, w4 = sL w1 180 0 ((0 : Int64)) → Q (.inl (some (iv 0))) w4) ∧ (u2 ≠ 0 → ∀ w5 : PW, w5 = sL w1 180 0 ((1 : Int64)) → Q (.inl (some (iv 0))) w5)) (fun E w6 => (E = 1 ∧ Sh w6 ∧ Q (.inl (some (iv 1))) w6)))) : pC 114 [.ref 0, iv x1, .ref 180] w Q :=
  (pC_in (Nat.le_of_ble_eq_true rfl) rfl Q).mpr (v114_0 hs hx1 h)
/-! 126: PinBarrelLaw.tries(LPinBarrel;I[J)I -/
theorem b126 : mB 126 = cL_tries := rfl
theorem r126 : mR 126 = (some .int) := rfl
theorem d126_0 : decode cL_tries 0 = .ok (.aload_n 2, 1) := by decide +kernel
theorem d126_1 : decode cL_tries 1 = .ok (.iconst 0, 1) := by decide +kernel
theorem d126_2 : decode cL_tries 2 = .ok (.aload_n 0, 1) := by decide +kernel
theorem d126_3 : decode cL_tries 3 = .ok (.iload_n 1, 1) := by decide +kernel
theorem d126_4 : decode cL_tries 4 = .ok (.invokevirtual 57, 3) := by decide +kernel
theorem d126_7 : decode cL_tries 7 = .ok (.i2l, 1) := by decide +kernel
theorem d126_8 : decode cL_tries 8 = .ok (.lastore, 1) := by decide +kernel
theorem d126_9 : decode cL_tries 9 = .ok (.goto 6, 3) := by decide +kernel
theorem d126_13 : decode cL_tries 13 = .ok (.iconst 1, 1) := by decide +kernel
theorem d126_14 : decode cL_tries 14 = .ok (.ireturn, 1) := by decide +kernel
theorem d126_15 : decode cL_tries 15 = .ok (.iconst 0, 1) := by decide +kernel
theorem d126_16 : decode cL_tries 16 = .ok (.ireturn, 1) := by decide +kernel
theorem v126_0 {w : PW} {Q : PO → PW → Prop} {x1 : Int} (hs : Sh w) (hx1 : bd x1) (h : pC 125 [.ref 0, iv x1] w (kH (kI fun u2 w1 => Sh w1 ∧ ∀ w3 : PW, w3 = sL w1 180 0 (i2L u2) → Q (.inl (some (iv 0))) w3) (fun E w4 => (E = 1 ∧ Sh w4 ∧ Q (.inl (some (iv 1))) w4)))) : pX 126 0 [some (.ref 0), some (iv x1), some (.ref 180), none] [] w Q :=
  w_f b126 d126_0 rfl rfl rfl <| w_f b126 d126_1 rfl rfl rfl <| w_f b126 d126_2 rfl rfl rfl <| w_f b126 d126_3 rfl rfl rfl <| w_c b126 d126_4 rfl (pcl_v (n := 1) rfl rfl rfl (by decide +kernel) (sh_isOb hs (tlt 0 rfl) tbC_0) rfl rfl) rfl _ (hK_H (hK_I fun u2 w1 hbu2 hkw1 => w_f b126 d126_7 rfl rfl rfl <| w_las b126 d126_8 rfl hkw1.1 (tlt 180 rfl) tbC_180 (bdix (n := 1) ⟨by decide, by decide⟩ rfl) ⟨by decide, by decide⟩ <| w_j b126 d126_9 rfl (by decide +kernel) <| w_f b126 d126_15 rfl rfl rfl <| w_ri b126 d126_16 r126 (hkw1.2 _ rfl)) (fun E w4 => (fun q => by
  obtain ⟨rfl, hsw4, hkw4⟩ := q
  show (4 + 3 ≤ 12 ∧ 3 < 4) ∧ pX 126 13 [some (.ref 0), some (iv x1), some (.ref 180), none] [] w4 Q
  exact ⟨⟨by decide, by decide⟩, w_f b126 d126_13 rfl rfl rfl <| w_ri b126 d126_14 r126 hkw4⟩))) h
theorem e126 {w : PW} {Q : PO → PW → Prop} {x1 : Int} (hs : Sh w) (hx1 : bd x1) (h : pC 125 [.ref 0, iv x1] w (kH (kI fun u2 w1 => Sh w1 ∧ ∀ w3 : PW, w3 = sL w1 180 0 (i2L u2) → Q (.inl (some (iv 0))) w3) (fun E w4 => (E = 1 ∧ Sh w4 ∧ Q (.inl (some (iv 1))) w4)))) : pC 126 [.ref 0, iv x1, .ref 180] w Q :=
  (pC_in (Nat.le_of_ble_eq_true rfl) rfl Q).mpr (v126_0 hs hx1 h)
/-! 128: PinBarrelLaw.canLay(LPinBarrel;I[J)I -/
theorem b128 : mB 128 = cL_canLay := rfl
theorem r128 : mR 128 = (some .int) := rfl
theorem d128_0 : decode cL_canLay 0 = .ok (.aload_n 2, 1) := by decide +kernel
theorem d128_1 : decode cL_canLay 1 = .ok (.iconst 0, 1) := by decide +kernel
theorem d128_2 : decode cL_canLay 2 = .ok (.aload_n 0, 1) := by decide +kernel
theorem d128_3 : decode cL_canLay 3 = .ok (.iload_n 1, 1) := by decide +kernel
theorem d128_4 : decode cL_canLay 4 = .ok (.invokevirtual 60, 3) := by decide +kernel
theorem d128_7 : decode cL_canLay 7 = .ok (.i2l, 1) := by decide +kernel
theorem d128_8 : decode cL_canLay 8 = .ok (.lastore, 1) := by decide +kernel
theorem d128_9 : decode cL_canLay 9 = .ok (.goto 6, 3) := by decide +kernel
theorem d128_13 : decode cL_canLay 13 = .ok (.iconst 1, 1) := by decide +kernel
theorem d128_14 : decode cL_canLay 14 = .ok (.ireturn, 1) := by decide +kernel
theorem d128_15 : decode cL_canLay 15 = .ok (.iconst 0, 1) := by decide +kernel
theorem d128_16 : decode cL_canLay 16 = .ok (.ireturn, 1) := by decide +kernel
theorem v128_0 {w : PW} {Q : PO → PW → Prop} {x1 : Int} (hs : Sh w) (hx1 : bd x1) (h : pC 127 [.ref 0, iv x1] w (kH (kI fun u2 w1 => Sh w1 ∧ ∀ w3 : PW, w3 = sL w1 180 0 (i2L u2) → Q (.inl (some (iv 0))) w3) (fun E w4 => (E = 1 ∧ Sh w4 ∧ Q (.inl (some (iv 1))) w4)))) : pX 128 0 [some (.ref 0), some (iv x1), some (.ref 180), none] [] w Q :=
  w_f b128 d128_0 rfl rfl rfl <| w_f b128 d128_1 rfl rfl rfl <| w_f b128 d128_2 rfl rfl rfl <| w_f b128 d128_3 rfl rfl rfl <| w_c b128 d128_4 rfl (pcl_v (n := 1) rfl rfl rfl (by decide +kernel) (sh_isOb hs (tlt 0 rfl) tbC_0) rfl rfl) rfl _ (hK_H (hK_I fun u2 w1 hbu2 hkw1 => w_f b128 d128_7 rfl rfl rfl <| w_las b128 d128_8 rfl hkw1.1 (tlt 180 rfl) tbC_180 (bdix (n := 1) ⟨by decide, by decide⟩ rfl) ⟨by decide, by decide⟩ <| w_j b128 d128_9 rfl (by decide +kernel) <| w_f b128 d128_15 rfl rfl rfl <| w_ri b128 d128_16 r128 (hkw1.2 _ rfl)) (fun E w4 => (fun q => by
  obtain ⟨rfl, hsw4, hkw4⟩ := q
  show (4 + 3 ≤ 12 ∧ 3 < 4) ∧ pX 128 13 [some (.ref 0), some (iv x1), some (.ref 180), none] [] w4 Q
  exact ⟨⟨by decide, by decide⟩, w_f b128 d128_13 rfl rfl rfl <| w_ri b128 d128_14 r128 hkw4⟩))) h
theorem e128 {w : PW} {Q : PO → PW → Prop} {x1 : Int} (hs : Sh w) (hx1 : bd x1) (h : pC 127 [.ref 0, iv x1] w (kH (kI fun u2 w1 => Sh w1 ∧ ∀ w3 : PW, w3 = sL w1 180 0 (i2L u2) → Q (.inl (some (iv 0))) w3) (fun E w4 => (E = 1 ∧ Sh w4 ∧ Q (.inl (some (iv 1))) w4)))) : pC 128 [.ref 0, iv x1, .ref 180] w Q :=
  (pC_in (Nat.le_of_ble_eq_true rfl) rfl Q).mpr (v128_0 hs hx1 h)
/-! 132: PinBarrelLaw.laidOn(LPinBarrel;I[J)I -/
theorem b132 : mB 132 = cL_laidOn := rfl
theorem r132 : mR 132 = (some .int) := rfl
theorem d132_0 : decode cL_laidOn 0 = .ok (.aload_n 2, 1) := by decide +kernel
theorem d132_1 : decode cL_laidOn 1 = .ok (.iconst 0, 1) := by decide +kernel
theorem d132_2 : decode cL_laidOn 2 = .ok (.aload_n 0, 1) := by decide +kernel
theorem d132_3 : decode cL_laidOn 3 = .ok (.iload_n 1, 1) := by decide +kernel
theorem d132_4 : decode cL_laidOn 4 = .ok (.invokevirtual 63, 3) := by decide +kernel
theorem d132_7 : decode cL_laidOn 7 = .ok (.i2l, 1) := by decide +kernel
theorem d132_8 : decode cL_laidOn 8 = .ok (.lastore, 1) := by decide +kernel
theorem d132_9 : decode cL_laidOn 9 = .ok (.goto 6, 3) := by decide +kernel
theorem d132_13 : decode cL_laidOn 13 = .ok (.iconst 1, 1) := by decide +kernel
theorem d132_14 : decode cL_laidOn 14 = .ok (.ireturn, 1) := by decide +kernel
theorem d132_15 : decode cL_laidOn 15 = .ok (.iconst 0, 1) := by decide +kernel
theorem d132_16 : decode cL_laidOn 16 = .ok (.ireturn, 1) := by decide +kernel
theorem v132_0 {w : PW} {Q : PO → PW → Prop} {x1 : Int} (hs : Sh w) (hx1 : bd x1) (h : pC 131 [.ref 0, iv x1] w (kH (kI fun u2 w1 => Sh w1 ∧ ∀ w3 : PW, w3 = sL w1 180 0 (i2L u2) → Q (.inl (some (iv 0))) w3) (fun E w4 => (E = 2 ∧ Sh w4 ∧ Q (.inl (some (iv 1))) w4)))) : pX 132 0 [some (.ref 0), some (iv x1), some (.ref 180), none] [] w Q :=
  w_f b132 d132_0 rfl rfl rfl <| w_f b132 d132_1 rfl rfl rfl <| w_f b132 d132_2 rfl rfl rfl <| w_f b132 d132_3 rfl rfl rfl <| w_c b132 d132_4 rfl (pcl_v (n := 1) rfl rfl rfl (by decide +kernel) (sh_isOb hs (tlt 0 rfl) tbC_0) rfl rfl) rfl _ (hK_H (hK_I fun u2 w1 hbu2 hkw1 => w_f b132 d132_7 rfl rfl rfl <| w_las b132 d132_8 rfl hkw1.1 (tlt 180 rfl) tbC_180 (bdix (n := 1) ⟨by decide, by decide⟩ rfl) ⟨by decide, by decide⟩ <| w_j b132 d132_9 rfl (by decide +kernel) <| w_f b132 d132_15 rfl rfl rfl <| w_ri b132 d132_16 r132 (hkw1.2 _ rfl)) (fun E w4 => (fun q => by
  obtain ⟨rfl, hsw4, hkw4⟩ := q
  show (4 + 3 ≤ 12 ∧ 3 < 4) ∧ pX 132 13 [some (.ref 0), some (iv x1), some (.ref 180), none] [] w4 Q
  exact ⟨⟨by decide, by decide⟩, w_f b132 d132_13 rfl rfl rfl <| w_ri b132 d132_14 r132 hkw4⟩))) h
theorem e132 {w : PW} {Q : PO → PW → Prop} {x1 : Int} (hs : Sh w) (hx1 : bd x1) (h : pC 131 [.ref 0, iv x1] w (kH (kI fun u2 w1 => Sh w1 ∧ ∀ w3 : PW, w3 = sL w1 180 0 (i2L u2) → Q (.inl (some (iv 0))) w3) (fun E w4 => (E = 2 ∧ Sh w4 ∧ Q (.inl (some (iv 1))) w4)))) : pC 132 [.ref 0, iv x1, .ref 180] w Q :=
  (pC_in (Nat.le_of_ble_eq_true rfl) rfl Q).mpr (v132_0 hs hx1 h)
/-! 135: PinBarrelLaw.spare(LPinBarrel;I[J)I -/
theorem b135 : mB 135 = cL_spare := rfl
theorem r135 : mR 135 = (some .int) := rfl
theorem d135_0 : decode cL_spare 0 = .ok (.aload_n 2, 1) := by decide +kernel
theorem d135_1 : decode cL_spare 1 = .ok (.iconst 0, 1) := by decide +kernel
theorem d135_2 : decode cL_spare 2 = .ok (.aload_n 0, 1) := by decide +kernel
theorem d135_3 : decode cL_spare 3 = .ok (.iload_n 1, 1) := by decide +kernel
theorem d135_4 : decode cL_spare 4 = .ok (.invokevirtual 66, 3) := by decide +kernel
theorem d135_7 : decode cL_spare 7 = .ok (.i2l, 1) := by decide +kernel
theorem d135_8 : decode cL_spare 8 = .ok (.lastore, 1) := by decide +kernel
theorem d135_9 : decode cL_spare 9 = .ok (.goto 6, 3) := by decide +kernel
theorem d135_13 : decode cL_spare 13 = .ok (.iconst 1, 1) := by decide +kernel
theorem d135_14 : decode cL_spare 14 = .ok (.ireturn, 1) := by decide +kernel
theorem d135_15 : decode cL_spare 15 = .ok (.iconst 0, 1) := by decide +kernel
theorem d135_16 : decode cL_spare 16 = .ok (.ireturn, 1) := by decide +kernel
theorem v135_0 {w : PW} {Q : PO → PW → Prop} {x1 : Int} (hs : Sh w) (hx1 : bd x1) (h : pC 134 [.ref 0, iv x1] w (kH (kI fun u2 w1 => Sh w1 ∧ ∀ w3 : PW, w3 = sL w1 180 0 (i2L u2) → Q (.inl (some (iv 0))) w3) (fun E w4 => (E = 1 ∧ Sh w4 ∧ Q (.inl (some (iv 1))) w4)))) : pX 135 0 [some (.ref 0), some (iv x1), some (.ref 180), none] [] w Q :=
  w_f b135 d135_0 rfl rfl rfl <| w_f b135 d135_1 rfl rfl rfl <| w_f b135 d135_2 rfl rfl rfl <| w_f b135 d135_3 rfl rfl rfl <| w_c b135 d135_4 rfl (pcl_v (n := 1) rfl rfl rfl (by decide +kernel) (sh_isOb hs (tlt 0 rfl) tbC_0) rfl rfl) rfl _ (hK_H (hK_I fun u2 w1 hbu2 hkw1 => w_f b135 d135_7 rfl rfl rfl <| w_las b135 d135_8 rfl hkw1.1 (tlt 180 rfl) tbC_180 (bdix (n := 1) ⟨by decide, by decide⟩ rfl) ⟨by decide, by decide⟩ <| w_j b135 d135_9 rfl (by decide +kernel) <| w_f b135 d135_15 rfl rfl rfl <| w_ri b135 d135_16 r135 (hkw1.2 _ rfl)) (fun E w4 => (fun q => by
  obtain ⟨rfl, hsw4, hkw4⟩ := q
  show (4 + 3 ≤ 12 ∧ 3 < 4) ∧ pX 135 13 [some (.ref 0), some (iv x1), some (.ref 180), none] [] w4 Q
  exact ⟨⟨by decide, by decide⟩, w_f b135 d135_13 rfl rfl rfl <| w_ri b135 d135_14 r135 hkw4⟩))) h
theorem e135 {w : PW} {Q : PO → PW → Prop} {x1 : Int} (hs : Sh w) (hx1 : bd x1) (h : pC 134 [.ref 0, iv x1] w (kH (kI fun u2 w1 => Sh w1 ∧ ∀ w3 : PW, w3 = sL w1 180 0 (i2L u2) → Q (.inl (some (iv 0))) w3) (fun E w4 => (E = 1 ∧ Sh w4 ∧ Q (.inl (some (iv 1))) w4)))) : pC 135 [.ref 0, iv x1, .ref 180] w Q :=
  (pC_in (Nat.le_of_ble_eq_true rfl) rfl Q).mpr (v135_0 hs hx1 h)
/-! 137: PinBarrelLaw.fastest(LPinBarrel;I[J)I -/
theorem b137 : mB 137 = cL_fastest := rfl
theorem r137 : mR 137 = (some .int) := rfl
theorem d137_0 : decode cL_fastest 0 = .ok (.aload_n 2, 1) := by decide +kernel
theorem d137_1 : decode cL_fastest 1 = .ok (.iconst 0, 1) := by decide +kernel
theorem d137_2 : decode cL_fastest 2 = .ok (.aload_n 0, 1) := by decide +kernel
theorem d137_3 : decode cL_fastest 3 = .ok (.iload_n 1, 1) := by decide +kernel
theorem d137_4 : decode cL_fastest 4 = .ok (.invokevirtual 69, 3) := by decide +kernel
theorem d137_7 : decode cL_fastest 7 = .ok (.i2l, 1) := by decide +kernel
theorem d137_8 : decode cL_fastest 8 = .ok (.lastore, 1) := by decide +kernel
theorem d137_9 : decode cL_fastest 9 = .ok (.goto 6, 3) := by decide +kernel
theorem d137_13 : decode cL_fastest 13 = .ok (.iconst 1, 1) := by decide +kernel
theorem d137_14 : decode cL_fastest 14 = .ok (.ireturn, 1) := by decide +kernel
theorem d137_15 : decode cL_fastest 15 = .ok (.iconst 0, 1) := by decide +kernel
theorem d137_16 : decode cL_fastest 16 = .ok (.ireturn, 1) := by decide +kernel
theorem v137_0 {w : PW} {Q : PO → PW → Prop} {x1 : Int} (hs : Sh w) (hx1 : bd x1) (h : pC 136 [.ref 0, iv x1] w (kH (kI fun u2 w1 => Sh w1 ∧ ∀ w3 : PW, w3 = sL w1 180 0 (i2L u2) → Q (.inl (some (iv 0))) w3) (fun E w4 => (E = 1 ∧ Sh w4 ∧ Q (.inl (some (iv 1))) w4)))) : pX 137 0 [some (.ref 0), some (iv x1), some (.ref 180), none] [] w Q :=
  w_f b137 d137_0 rfl rfl rfl <| w_f b137 d137_1 rfl rfl rfl <| w_f b137 d137_2 rfl rfl rfl <| w_f b137 d137_3 rfl rfl rfl <| w_c b137 d137_4 rfl (pcl_v (n := 1) rfl rfl rfl (by decide +kernel) (sh_isOb hs (tlt 0 rfl) tbC_0) rfl rfl) rfl _ (hK_H (hK_I fun u2 w1 hbu2 hkw1 => w_f b137 d137_7 rfl rfl rfl <| w_las b137 d137_8 rfl hkw1.1 (tlt 180 rfl) tbC_180 (bdix (n := 1) ⟨by decide, by decide⟩ rfl) ⟨by decide, by decide⟩ <| w_j b137 d137_9 rfl (by decide +kernel) <| w_f b137 d137_15 rfl rfl rfl <| w_ri b137 d137_16 r137 (hkw1.2 _ rfl)) (fun E w4 => (fun q => by
  obtain ⟨rfl, hsw4, hkw4⟩ := q
  show (4 + 3 ≤ 12 ∧ 3 < 4) ∧ pX 137 13 [some (.ref 0), some (iv x1), some (.ref 180), none] [] w4 Q
  exact ⟨⟨by decide, by decide⟩, w_f b137 d137_13 rfl rfl rfl <| w_ri b137 d137_14 r137 hkw4⟩))) h
theorem e137 {w : PW} {Q : PO → PW → Prop} {x1 : Int} (hs : Sh w) (hx1 : bd x1) (h : pC 136 [.ref 0, iv x1] w (kH (kI fun u2 w1 => Sh w1 ∧ ∀ w3 : PW, w3 = sL w1 180 0 (i2L u2) → Q (.inl (some (iv 0))) w3) (fun E w4 => (E = 1 ∧ Sh w4 ∧ Q (.inl (some (iv 1))) w4)))) : pC 137 [.ref 0, iv x1, .ref 180] w Q :=
  (pC_in (Nat.le_of_ble_eq_true rfl) rfl Q).mpr (v137_0 hs hx1 h)
/-! 139: PinBarrelLaw.needed(LPinBarrel;I[J)I -/
theorem b139 : mB 139 = cL_needed := rfl
theorem r139 : mR 139 = (some .int) := rfl
theorem d139_0 : decode cL_needed 0 = .ok (.aload_n 2, 1) := by decide +kernel
theorem d139_1 : decode cL_needed 1 = .ok (.iconst 0, 1) := by decide +kernel
theorem d139_2 : decode cL_needed 2 = .ok (.aload_n 0, 1) := by decide +kernel
theorem d139_3 : decode cL_needed 3 = .ok (.iload_n 1, 1) := by decide +kernel
theorem d139_4 : decode cL_needed 4 = .ok (.invokevirtual 72, 3) := by decide +kernel
theorem d139_7 : decode cL_needed 7 = .ok (.i2l, 1) := by decide +kernel
theorem d139_8 : decode cL_needed 8 = .ok (.lastore, 1) := by decide +kernel
theorem d139_9 : decode cL_needed 9 = .ok (.goto 6, 3) := by decide +kernel
theorem d139_13 : decode cL_needed 13 = .ok (.iconst 1, 1) := by decide +kernel
theorem d139_14 : decode cL_needed 14 = .ok (.ireturn, 1) := by decide +kernel
theorem d139_15 : decode cL_needed 15 = .ok (.iconst 0, 1) := by decide +kernel
theorem d139_16 : decode cL_needed 16 = .ok (.ireturn, 1) := by decide +kernel
theorem v139_0 {w : PW} {Q : PO → PW → Prop} {x1 : Int} (hs : Sh w) (hx1 : bd x1) (h : pC 138 [.ref 0, iv x1] w (kH (kI fun u2 w1 => Sh w1 ∧ ∀ w3 : PW, w3 = sL w1 180 0 (i2L u2) → Q (.inl (some (iv 0))) w3) (fun E w4 => (E = 1 ∧ Sh w4 ∧ Q (.inl (some (iv 1))) w4)))) : pX 139 0 [some (.ref 0), some (iv x1), some (.ref 180), none] [] w Q :=
  w_f b139 d139_0 rfl rfl rfl <| w_f b139 d139_1 rfl rfl rfl <| w_f b139 d139_2 rfl rfl rfl <| w_f b139 d139_3 rfl rfl rfl <| w_c b139 d139_4 rfl (pcl_v (n := 1) rfl rfl rfl (by decide +kernel) (sh_isOb hs (tlt 0 rfl) tbC_0) rfl rfl) rfl _ (hK_H (hK_I fun u2 w1 hbu2 hkw1 => w_f b139 d139_7 rfl rfl rfl <| w_las b139 d139_8 rfl hkw1.1 (tlt 180 rfl) tbC_180 (bdix (n := 1) ⟨by decide, by decide⟩ rfl) ⟨by decide, by decide⟩ <| w_j b139 d139_9 rfl (by decide +kernel) <| w_f b139 d139_15 rfl rfl rfl <| w_ri b139 d139_16 r139 (hkw1.2 _ rfl)) (fun E w4 => (fun q => by
  obtain ⟨rfl, hsw4, hkw4⟩ := q
  show (4 + 3 ≤ 12 ∧ 3 < 4) ∧ pX 139 13 [some (.ref 0), some (iv x1), some (.ref 180), none] [] w4 Q
  exact ⟨⟨by decide, by decide⟩, w_f b139 d139_13 rfl rfl rfl <| w_ri b139 d139_14 r139 hkw4⟩))) h
theorem e139 {w : PW} {Q : PO → PW → Prop} {x1 : Int} (hs : Sh w) (hx1 : bd x1) (h : pC 138 [.ref 0, iv x1] w (kH (kI fun u2 w1 => Sh w1 ∧ ∀ w3 : PW, w3 = sL w1 180 0 (i2L u2) → Q (.inl (some (iv 0))) w3) (fun E w4 => (E = 1 ∧ Sh w4 ∧ Q (.inl (some (iv 1))) w4)))) : pC 139 [.ref 0, iv x1, .ref 180] w Q :=
  (pC_in (Nat.le_of_ble_eq_true rfl) rfl Q).mpr (v139_0 hs hx1 h)
/-! 142: PinBarrelLaw.wanted(LPinBarrel;I[J)I -/
theorem b142 : mB 142 = cL_wanted := rfl
theorem r142 : mR 142 = (some .int) := rfl
theorem d142_0 : decode cL_wanted 0 = .ok (.aload_n 2, 1) := by decide +kernel
theorem d142_1 : decode cL_wanted 1 = .ok (.iconst 0, 1) := by decide +kernel
theorem d142_2 : decode cL_wanted 2 = .ok (.aload_n 0, 1) := by decide +kernel
theorem d142_3 : decode cL_wanted 3 = .ok (.iload_n 1, 1) := by decide +kernel
theorem d142_4 : decode cL_wanted 4 = .ok (.invokevirtual 75, 3) := by decide +kernel
theorem d142_7 : decode cL_wanted 7 = .ok (.i2l, 1) := by decide +kernel
theorem d142_8 : decode cL_wanted 8 = .ok (.lastore, 1) := by decide +kernel
theorem d142_9 : decode cL_wanted 9 = .ok (.goto 6, 3) := by decide +kernel
theorem d142_13 : decode cL_wanted 13 = .ok (.iconst 1, 1) := by decide +kernel
theorem d142_14 : decode cL_wanted 14 = .ok (.ireturn, 1) := by decide +kernel
theorem d142_15 : decode cL_wanted 15 = .ok (.iconst 0, 1) := by decide +kernel
theorem d142_16 : decode cL_wanted 16 = .ok (.ireturn, 1) := by decide +kernel
theorem v142_0 {w : PW} {Q : PO → PW → Prop} {x1 : Int} (hs : Sh w) (hx1 : bd x1) (h : pC 141 [.ref 0, iv x1] w (kH (kI fun u2 w1 => Sh w1 ∧ ∀ w3 : PW, w3 = sL w1 180 0 (i2L u2) → Q (.inl (some (iv 0))) w3) (fun E w4 => (E = 1 ∧ Sh w4 ∧ Q (.inl (some (iv 1))) w4)))) : pX 142 0 [some (.ref 0), some (iv x1), some (.ref 180), none] [] w Q :=
  w_f b142 d142_0 rfl rfl rfl <| w_f b142 d142_1 rfl rfl rfl <| w_f b142 d142_2 rfl rfl rfl <| w_f b142 d142_3 rfl rfl rfl <| w_c b142 d142_4 rfl (pcl_v (n := 1) rfl rfl rfl (by decide +kernel) (sh_isOb hs (tlt 0 rfl) tbC_0) rfl rfl) rfl _ (hK_H (hK_I fun u2 w1 hbu2 hkw1 => w_f b142 d142_7 rfl rfl rfl <| w_las b142 d142_8 rfl hkw1.1 (tlt 180 rfl) tbC_180 (bdix (n := 1) ⟨by decide, by decide⟩ rfl) ⟨by decide, by decide⟩ <| w_j b142 d142_9 rfl (by decide +kernel) <| w_f b142 d142_15 rfl rfl rfl <| w_ri b142 d142_16 r142 (hkw1.2 _ rfl)) (fun E w4 => (fun q => by
  obtain ⟨rfl, hsw4, hkw4⟩ := q
  show (4 + 3 ≤ 12 ∧ 3 < 4) ∧ pX 142 13 [some (.ref 0), some (iv x1), some (.ref 180), none] [] w4 Q
  exact ⟨⟨by decide, by decide⟩, w_f b142 d142_13 rfl rfl rfl <| w_ri b142 d142_14 r142 hkw4⟩))) h
theorem e142 {w : PW} {Q : PO → PW → Prop} {x1 : Int} (hs : Sh w) (hx1 : bd x1) (h : pC 141 [.ref 0, iv x1] w (kH (kI fun u2 w1 => Sh w1 ∧ ∀ w3 : PW, w3 = sL w1 180 0 (i2L u2) → Q (.inl (some (iv 0))) w3) (fun E w4 => (E = 1 ∧ Sh w4 ∧ Q (.inl (some (iv 1))) w4)))) : pC 142 [.ref 0, iv x1, .ref 180] w Q :=
  (pC_in (Nat.le_of_ble_eq_true rfl) rfl Q).mpr (v142_0 hs hx1 h)
/-! 145: PinBarrelLaw.bestTurn(LPinBarrel;I[J)I -/
theorem b145 : mB 145 = cL_bestTurn := rfl
theorem r145 : mR 145 = (some .int) := rfl
theorem d145_0 : decode cL_bestTurn 0 = .ok (.aload_n 2, 1) := by decide +kernel
theorem d145_1 : decode cL_bestTurn 1 = .ok (.iconst 0, 1) := by decide +kernel
theorem d145_2 : decode cL_bestTurn 2 = .ok (.aload_n 0, 1) := by decide +kernel
theorem d145_3 : decode cL_bestTurn 3 = .ok (.iload_n 1, 1) := by decide +kernel
theorem d145_4 : decode cL_bestTurn 4 = .ok (.invokevirtual 78, 3) := by decide +kernel
theorem d145_7 : decode cL_bestTurn 7 = .ok (.i2l, 1) := by decide +kernel
theorem d145_8 : decode cL_bestTurn 8 = .ok (.lastore, 1) := by decide +kernel
theorem d145_9 : decode cL_bestTurn 9 = .ok (.goto 6, 3) := by decide +kernel
theorem d145_13 : decode cL_bestTurn 13 = .ok (.iconst 1, 1) := by decide +kernel
theorem d145_14 : decode cL_bestTurn 14 = .ok (.ireturn, 1) := by decide +kernel
theorem d145_15 : decode cL_bestTurn 15 = .ok (.iconst 0, 1) := by decide +kernel
theorem d145_16 : decode cL_bestTurn 16 = .ok (.ireturn, 1) := by decide +kernel
theorem v145_0 {w : PW} {Q : PO → PW → Prop} {x1 : Int} (hs : Sh w) (hx1 : bd x1) (h : pC 144 [.ref 0, iv x1] w (kH (kI fun u2 w1 => Sh w1 ∧ ∀ w3 : PW, w3 = sL w1 180 0 (i2L u2) → Q (.inl (some (iv 0))) w3) (fun E w4 => (E = 1 ∧ Sh w4 ∧ Q (.inl (some (iv 1))) w4)))) : pX 145 0 [some (.ref 0), some (iv x1), some (.ref 180), none] [] w Q :=
  w_f b145 d145_0 rfl rfl rfl <| w_f b145 d145_1 rfl rfl rfl <| w_f b145 d145_2 rfl rfl rfl <| w_f b145 d145_3 rfl rfl rfl <| w_c b145 d145_4 rfl (pcl_v (n := 1) rfl rfl rfl (by decide +kernel) (sh_isOb hs (tlt 0 rfl) tbC_0) rfl rfl) rfl _ (hK_H (hK_I fun u2 w1 hbu2 hkw1 => w_f b145 d145_7 rfl rfl rfl <| w_las b145 d145_8 rfl hkw1.1 (tlt 180 rfl) tbC_180 (bdix (n := 1) ⟨by decide, by decide⟩ rfl) ⟨by decide, by decide⟩ <| w_j b145 d145_9 rfl (by decide +kernel) <| w_f b145 d145_15 rfl rfl rfl <| w_ri b145 d145_16 r145 (hkw1.2 _ rfl)) (fun E w4 => (fun q => by
  obtain ⟨rfl, hsw4, hkw4⟩ := q
  show (4 + 3 ≤ 12 ∧ 3 < 4) ∧ pX 145 13 [some (.ref 0), some (iv x1), some (.ref 180), none] [] w4 Q
  exact ⟨⟨by decide, by decide⟩, w_f b145 d145_13 rfl rfl rfl <| w_ri b145 d145_14 r145 hkw4⟩))) h
theorem e145 {w : PW} {Q : PO → PW → Prop} {x1 : Int} (hs : Sh w) (hx1 : bd x1) (h : pC 144 [.ref 0, iv x1] w (kH (kI fun u2 w1 => Sh w1 ∧ ∀ w3 : PW, w3 = sL w1 180 0 (i2L u2) → Q (.inl (some (iv 0))) w3) (fun E w4 => (E = 1 ∧ Sh w4 ∧ Q (.inl (some (iv 1))) w4)))) : pC 145 [.ref 0, iv x1, .ref 180] w Q :=
  (pC_in (Nat.le_of_ble_eq_true rfl) rfl Q).mpr (v145_0 hs hx1 h)
/-! 148: PinBarrelLaw.uses(LPinBarrel;II[J)I -/
theorem b148 : mB 148 = cL_uses := rfl
theorem r148 : mR 148 = (some .int) := rfl
theorem d148_0 : decode cL_uses 0 = .ok (.aload_n 3, 1) := by decide +kernel
theorem d148_1 : decode cL_uses 1 = .ok (.iconst 0, 1) := by decide +kernel
theorem d148_2 : decode cL_uses 2 = .ok (.aload_n 0, 1) := by decide +kernel
theorem d148_3 : decode cL_uses 3 = .ok (.iload_n 1, 1) := by decide +kernel
theorem d148_4 : decode cL_uses 4 = .ok (.iload_n 2, 1) := by decide +kernel
theorem d148_5 : decode cL_uses 5 = .ok (.invokevirtual 81, 3) := by decide +kernel
theorem d148_8 : decode cL_uses 8 = .ok (.i2l, 1) := by decide +kernel
theorem d148_9 : decode cL_uses 9 = .ok (.lastore, 1) := by decide +kernel
theorem d148_10 : decode cL_uses 10 = .ok (.goto 7, 3) := by decide +kernel
theorem d148_15 : decode cL_uses 15 = .ok (.iconst 1, 1) := by decide +kernel
theorem d148_16 : decode cL_uses 16 = .ok (.ireturn, 1) := by decide +kernel
theorem d148_17 : decode cL_uses 17 = .ok (.iconst 0, 1) := by decide +kernel
theorem d148_18 : decode cL_uses 18 = .ok (.ireturn, 1) := by decide +kernel
theorem v148_0 {w : PW} {Q : PO → PW → Prop} {x1 : Int} {x2 : Int} (hs : Sh w) (hx1 : bd x1) (hx2 : bd x2) (h : pC 147 [.ref 0, iv x1, iv x2] w (kH (kI fun u2 w1 => Sh w1 ∧ ∀ w3 : PW, w3 = sL w1 180 0 (i2L u2) → Q (.inl (some (iv 0))) w3) (fun E w4 => (E = 1 ∧ Sh w4 ∧ Q (.inl (some (iv 1))) w4)))) : pX 148 0 [some (.ref 0), some (iv x1), some (iv x2), some (.ref 180), none] [] w Q :=
  w_f b148 d148_0 rfl rfl rfl <| w_f b148 d148_1 rfl rfl rfl <| w_f b148 d148_2 rfl rfl rfl <| w_f b148 d148_3 rfl rfl rfl <| w_f b148 d148_4 rfl rfl rfl <| w_c b148 d148_5 rfl (pcl_v (n := 2) rfl rfl rfl (by decide +kernel) (sh_isOb hs (tlt 0 rfl) tbC_0) rfl rfl) rfl _ (hK_H (hK_I fun u2 w1 hbu2 hkw1 => w_f b148 d148_8 rfl rfl rfl <| w_las b148 d148_9 rfl hkw1.1 (tlt 180 rfl) tbC_180 (bdix (n := 1) ⟨by decide, by decide⟩ rfl) ⟨by decide, by decide⟩ <| w_j b148 d148_10 rfl (by decide +kernel) <| w_f b148 d148_17 rfl rfl rfl <| w_ri b148 d148_18 r148 (hkw1.2 _ rfl)) (fun E w4 => (fun q => by
  obtain ⟨rfl, hsw4, hkw4⟩ := q
  show (5 + 3 ≤ 13 ∧ 4 < 5) ∧ pX 148 15 [some (.ref 0), some (iv x1), some (iv x2), some (.ref 180), none] [] w4 Q
  exact ⟨⟨by decide, by decide⟩, w_f b148 d148_15 rfl rfl rfl <| w_ri b148 d148_16 r148 hkw4⟩))) h
theorem e148 {w : PW} {Q : PO → PW → Prop} {x1 : Int} {x2 : Int} (hs : Sh w) (hx1 : bd x1) (hx2 : bd x2) (h : pC 147 [.ref 0, iv x1, iv x2] w (kH (kI fun u2 w1 => Sh w1 ∧ ∀ w3 : PW, w3 = sL w1 180 0 (i2L u2) → Q (.inl (some (iv 0))) w3) (fun E w4 => (E = 1 ∧ Sh w4 ∧ Q (.inl (some (iv 1))) w4)))) : pC 148 [.ref 0, iv x1, iv x2, .ref 180] w Q :=
  (pC_in (Nat.le_of_ble_eq_true rfl) rfl Q).mpr (v148_0 hs hx1 hx2 h)
/-! 150: PinBarrelLaw.mostUsed(LPinBarrel;I[J)I -/
theorem b150 : mB 150 = cL_mostUsed := rfl
theorem r150 : mR 150 = (some .int) := rfl
theorem d150_0 : decode cL_mostUsed 0 = .ok (.aload_n 2, 1) := by decide +kernel
theorem d150_1 : decode cL_mostUsed 1 = .ok (.iconst 0, 1) := by decide +kernel
theorem d150_2 : decode cL_mostUsed 2 = .ok (.aload_n 0, 1) := by decide +kernel
theorem d150_3 : decode cL_mostUsed 3 = .ok (.iload_n 1, 1) := by decide +kernel
theorem d150_4 : decode cL_mostUsed 4 = .ok (.invokevirtual 84, 3) := by decide +kernel
theorem d150_7 : decode cL_mostUsed 7 = .ok (.i2l, 1) := by decide +kernel
theorem d150_8 : decode cL_mostUsed 8 = .ok (.lastore, 1) := by decide +kernel
theorem d150_9 : decode cL_mostUsed 9 = .ok (.goto 6, 3) := by decide +kernel
theorem d150_13 : decode cL_mostUsed 13 = .ok (.iconst 1, 1) := by decide +kernel
theorem d150_14 : decode cL_mostUsed 14 = .ok (.ireturn, 1) := by decide +kernel
theorem d150_15 : decode cL_mostUsed 15 = .ok (.iconst 0, 1) := by decide +kernel
theorem d150_16 : decode cL_mostUsed 16 = .ok (.ireturn, 1) := by decide +kernel
theorem v150_0 {w : PW} {Q : PO → PW → Prop} {x1 : Int} (hs : Sh w) (hx1 : bd x1) (h : pC 149 [.ref 0, iv x1] w (kH (kI fun u2 w1 => Sh w1 ∧ ∀ w3 : PW, w3 = sL w1 180 0 (i2L u2) → Q (.inl (some (iv 0))) w3) (fun E w4 => (E = 1 ∧ Sh w4 ∧ Q (.inl (some (iv 1))) w4)))) : pX 150 0 [some (.ref 0), some (iv x1), some (.ref 180), none] [] w Q :=
  w_f b150 d150_0 rfl rfl rfl <| w_f b150 d150_1 rfl rfl rfl <| w_f b150 d150_2 rfl rfl rfl <| w_f b150 d150_3 rfl rfl rfl <| w_c b150 d150_4 rfl (pcl_v (n := 1) rfl rfl rfl (by decide +kernel) (sh_isOb hs (tlt 0 rfl) tbC_0) rfl rfl) rfl _ (hK_H (hK_I fun u2 w1 hbu2 hkw1 => w_f b150 d150_7 rfl rfl rfl <| w_las b150 d150_8 rfl hkw1.1 (tlt 180 rfl) tbC_180 (bdix (n := 1) ⟨by decide, by decide⟩ rfl) ⟨by decide, by decide⟩ <| w_j b150 d150_9 rfl (by decide +kernel) <| w_f b150 d150_15 rfl rfl rfl <| w_ri b150 d150_16 r150 (hkw1.2 _ rfl)) (fun E w4 => (fun q => by
  obtain ⟨rfl, hsw4, hkw4⟩ := q
  show (4 + 3 ≤ 12 ∧ 3 < 4) ∧ pX 150 13 [some (.ref 0), some (iv x1), some (.ref 180), none] [] w4 Q
  exact ⟨⟨by decide, by decide⟩, w_f b150 d150_13 rfl rfl rfl <| w_ri b150 d150_14 r150 hkw4⟩))) h
theorem e150 {w : PW} {Q : PO → PW → Prop} {x1 : Int} (hs : Sh w) (hx1 : bd x1) (h : pC 149 [.ref 0, iv x1] w (kH (kI fun u2 w1 => Sh w1 ∧ ∀ w3 : PW, w3 = sL w1 180 0 (i2L u2) → Q (.inl (some (iv 0))) w3) (fun E w4 => (E = 1 ∧ Sh w4 ∧ Q (.inl (some (iv 1))) w4)))) : pC 150 [.ref 0, iv x1, .ref 180] w Q :=
  (pC_in (Nat.le_of_ble_eq_true rfl) rfl Q).mpr (v150_0 hs hx1 h)
/-! 153: PinBarrelLaw.crowd(LPinBarrel;III[J)I -/
theorem b153 : mB 153 = cL_crowd := rfl
theorem r153 : mR 153 = (some .int) := rfl
theorem d153_0 : decode cL_crowd 0 = .ok (.aload 4, 2) := by decide +kernel
theorem d153_2 : decode cL_crowd 2 = .ok (.iconst 0, 1) := by decide +kernel
theorem d153_3 : decode cL_crowd 3 = .ok (.aload_n 0, 1) := by decide +kernel
theorem d153_4 : decode cL_crowd 4 = .ok (.iload_n 1, 1) := by decide +kernel
theorem d153_5 : decode cL_crowd 5 = .ok (.iload_n 2, 1) := by decide +kernel
theorem d153_6 : decode cL_crowd 6 = .ok (.iload_n 3, 1) := by decide +kernel
theorem d153_7 : decode cL_crowd 7 = .ok (.invokevirtual 87, 3) := by decide +kernel
theorem d153_10 : decode cL_crowd 10 = .ok (.i2l, 1) := by decide +kernel
theorem d153_11 : decode cL_crowd 11 = .ok (.lastore, 1) := by decide +kernel
theorem d153_12 : decode cL_crowd 12 = .ok (.goto 7, 3) := by decide +kernel
theorem d153_17 : decode cL_crowd 17 = .ok (.iconst 1, 1) := by decide +kernel
theorem d153_18 : decode cL_crowd 18 = .ok (.ireturn, 1) := by decide +kernel
theorem d153_19 : decode cL_crowd 19 = .ok (.iconst 0, 1) := by decide +kernel
theorem d153_20 : decode cL_crowd 20 = .ok (.ireturn, 1) := by decide +kernel
theorem v153_0 {w : PW} {Q : PO → PW → Prop} {x1 : Int} {x2 : Int} {x3 : Int} (hs : Sh w) (hx1 : bd x1) (hx2 : bd x2) (hx3 : bd x3) (h : pC 152 [.ref 0, iv x1, iv x2, iv x3] w (kH (kI fun u2 w1 => Sh w1 ∧ ∀ w3 : PW, w3 = sL w1 180 0 (i2L u2) → Q (.inl (some (iv 0))) w3) (fun E w4 => (E = 1 ∧ Sh w4 ∧ Q (.inl (some (iv 1))) w4)))) : pX 153 0 [some (.ref 0), some (iv x1), some (iv x2), some (iv x3), some (.ref 180), none] [] w Q :=
  w_f b153 d153_0 rfl rfl rfl <| w_f b153 d153_2 rfl rfl rfl <| w_f b153 d153_3 rfl rfl rfl <| w_f b153 d153_4 rfl rfl rfl <| w_f b153 d153_5 rfl rfl rfl <| w_f b153 d153_6 rfl rfl rfl <| w_c b153 d153_7 rfl (pcl_v (n := 3) rfl rfl rfl (by decide +kernel) (sh_isOb hs (tlt 0 rfl) tbC_0) rfl rfl) rfl _ (hK_H (hK_I fun u2 w1 hbu2 hkw1 => w_f b153 d153_10 rfl rfl rfl <| w_las b153 d153_11 rfl hkw1.1 (tlt 180 rfl) tbC_180 (bdix (n := 1) ⟨by decide, by decide⟩ rfl) ⟨by decide, by decide⟩ <| w_j b153 d153_12 rfl (by decide +kernel) <| w_f b153 d153_19 rfl rfl rfl <| w_ri b153 d153_20 r153 (hkw1.2 _ rfl)) (fun E w4 => (fun q => by
  obtain ⟨rfl, hsw4, hkw4⟩ := q
  show (7 + 3 ≤ 15 ∧ 5 < 6) ∧ pX 153 17 [some (.ref 0), some (iv x1), some (iv x2), some (iv x3), some (.ref 180), none] [] w4 Q
  exact ⟨⟨by decide, by decide⟩, w_f b153 d153_17 rfl rfl rfl <| w_ri b153 d153_18 r153 hkw4⟩))) h
theorem e153 {w : PW} {Q : PO → PW → Prop} {x1 : Int} {x2 : Int} {x3 : Int} (hs : Sh w) (hx1 : bd x1) (hx2 : bd x2) (hx3 : bd x3) (h : pC 152 [.ref 0, iv x1, iv x2, iv x3] w (kH (kI fun u2 w1 => Sh w1 ∧ ∀ w3 : PW, w3 = sL w1 180 0 (i2L u2) → Q (.inl (some (iv 0))) w3) (fun E w4 => (E = 1 ∧ Sh w4 ∧ Q (.inl (some (iv 1))) w4)))) : pC 153 [.ref 0, iv x1, iv x2, iv x3, .ref 180] w Q :=
  (pC_in (Nat.le_of_ble_eq_true rfl) rfl Q).mpr (v153_0 hs hx1 hx2 hx3 h)
/-! 156: PinBarrelLaw.silence(LPinBarrel;I[J)I -/
theorem b156 : mB 156 = cL_silence := rfl
theorem r156 : mR 156 = (some .int) := rfl
theorem d156_0 : decode cL_silence 0 = .ok (.aload_n 2, 1) := by decide +kernel
theorem d156_1 : decode cL_silence 1 = .ok (.iconst 0, 1) := by decide +kernel
theorem d156_2 : decode cL_silence 2 = .ok (.aload_n 0, 1) := by decide +kernel
theorem d156_3 : decode cL_silence 3 = .ok (.iload_n 1, 1) := by decide +kernel
theorem d156_4 : decode cL_silence 4 = .ok (.invokevirtual 90, 3) := by decide +kernel
theorem d156_7 : decode cL_silence 7 = .ok (.i2l, 1) := by decide +kernel
theorem d156_8 : decode cL_silence 8 = .ok (.lastore, 1) := by decide +kernel
theorem d156_9 : decode cL_silence 9 = .ok (.goto 6, 3) := by decide +kernel
theorem d156_13 : decode cL_silence 13 = .ok (.iconst 1, 1) := by decide +kernel
theorem d156_14 : decode cL_silence 14 = .ok (.ireturn, 1) := by decide +kernel
theorem d156_15 : decode cL_silence 15 = .ok (.iconst 0, 1) := by decide +kernel
theorem d156_16 : decode cL_silence 16 = .ok (.ireturn, 1) := by decide +kernel
theorem v156_0 {w : PW} {Q : PO → PW → Prop} {x1 : Int} (hs : Sh w) (hx1 : bd x1) (h : pC 155 [.ref 0, iv x1] w (kH (kI fun u2 w1 => Sh w1 ∧ ∀ w3 : PW, w3 = sL w1 180 0 (i2L u2) → Q (.inl (some (iv 0))) w3) (fun E w4 => (E = 1 ∧ Sh w4 ∧ Q (.inl (some (iv 1))) w4)))) : pX 156 0 [some (.ref 0), some (iv x1), some (.ref 180), none] [] w Q :=
  w_f b156 d156_0 rfl rfl rfl <| w_f b156 d156_1 rfl rfl rfl <| w_f b156 d156_2 rfl rfl rfl <| w_f b156 d156_3 rfl rfl rfl <| w_c b156 d156_4 rfl (pcl_v (n := 1) rfl rfl rfl (by decide +kernel) (sh_isOb hs (tlt 0 rfl) tbC_0) rfl rfl) rfl _ (hK_H (hK_I fun u2 w1 hbu2 hkw1 => w_f b156 d156_7 rfl rfl rfl <| w_las b156 d156_8 rfl hkw1.1 (tlt 180 rfl) tbC_180 (bdix (n := 1) ⟨by decide, by decide⟩ rfl) ⟨by decide, by decide⟩ <| w_j b156 d156_9 rfl (by decide +kernel) <| w_f b156 d156_15 rfl rfl rfl <| w_ri b156 d156_16 r156 (hkw1.2 _ rfl)) (fun E w4 => (fun q => by
  obtain ⟨rfl, hsw4, hkw4⟩ := q
  show (4 + 3 ≤ 12 ∧ 3 < 4) ∧ pX 156 13 [some (.ref 0), some (iv x1), some (.ref 180), none] [] w4 Q
  exact ⟨⟨by decide, by decide⟩, w_f b156 d156_13 rfl rfl rfl <| w_ri b156 d156_14 r156 hkw4⟩))) h
theorem e156 {w : PW} {Q : PO → PW → Prop} {x1 : Int} (hs : Sh w) (hx1 : bd x1) (h : pC 155 [.ref 0, iv x1] w (kH (kI fun u2 w1 => Sh w1 ∧ ∀ w3 : PW, w3 = sL w1 180 0 (i2L u2) → Q (.inl (some (iv 0))) w3) (fun E w4 => (E = 1 ∧ Sh w4 ∧ Q (.inl (some (iv 1))) w4)))) : pC 156 [.ref 0, iv x1, .ref 180] w Q :=
  (pC_in (Nat.le_of_ble_eq_true rfl) rfl Q).mpr (v156_0 hs hx1 h)
/-! 159: PinBarrelLaw.heard(LPinBarrel;II[J)I -/
theorem b159 : mB 159 = cL_heard := rfl
theorem r159 : mR 159 = (some .int) := rfl
theorem d159_0 : decode cL_heard 0 = .ok (.aload_n 3, 1) := by decide +kernel
theorem d159_1 : decode cL_heard 1 = .ok (.iconst 0, 1) := by decide +kernel
theorem d159_2 : decode cL_heard 2 = .ok (.aload_n 0, 1) := by decide +kernel
theorem d159_3 : decode cL_heard 3 = .ok (.iload_n 1, 1) := by decide +kernel
theorem d159_4 : decode cL_heard 4 = .ok (.iload_n 2, 1) := by decide +kernel
theorem d159_5 : decode cL_heard 5 = .ok (.invokevirtual 93, 3) := by decide +kernel
theorem d159_8 : decode cL_heard 8 = .ok (.i2l, 1) := by decide +kernel
theorem d159_9 : decode cL_heard 9 = .ok (.lastore, 1) := by decide +kernel
theorem d159_10 : decode cL_heard 10 = .ok (.goto 7, 3) := by decide +kernel
theorem d159_15 : decode cL_heard 15 = .ok (.iconst 1, 1) := by decide +kernel
theorem d159_16 : decode cL_heard 16 = .ok (.ireturn, 1) := by decide +kernel
theorem d159_17 : decode cL_heard 17 = .ok (.iconst 0, 1) := by decide +kernel
theorem d159_18 : decode cL_heard 18 = .ok (.ireturn, 1) := by decide +kernel
theorem v159_0 {w : PW} {Q : PO → PW → Prop} {x1 : Int} {x2 : Int} (hs : Sh w) (hx1 : bd x1) (hx2 : bd x2) (h : pC 158 [.ref 0, iv x1, iv x2] w (kH (kI fun u2 w1 => Sh w1 ∧ ∀ w3 : PW, w3 = sL w1 180 0 (i2L u2) → Q (.inl (some (iv 0))) w3) (fun E w4 => (E = 1 ∧ Sh w4 ∧ Q (.inl (some (iv 1))) w4)))) : pX 159 0 [some (.ref 0), some (iv x1), some (iv x2), some (.ref 180), none] [] w Q :=
  w_f b159 d159_0 rfl rfl rfl <| w_f b159 d159_1 rfl rfl rfl <| w_f b159 d159_2 rfl rfl rfl <| w_f b159 d159_3 rfl rfl rfl <| w_f b159 d159_4 rfl rfl rfl <| w_c b159 d159_5 rfl (pcl_v (n := 2) rfl rfl rfl (by decide +kernel) (sh_isOb hs (tlt 0 rfl) tbC_0) rfl rfl) rfl _ (hK_H (hK_I fun u2 w1 hbu2 hkw1 => w_f b159 d159_8 rfl rfl rfl <| w_las b159 d159_9 rfl hkw1.1 (tlt 180 rfl) tbC_180 (bdix (n := 1) ⟨by decide, by decide⟩ rfl) ⟨by decide, by decide⟩ <| w_j b159 d159_10 rfl (by decide +kernel) <| w_f b159 d159_17 rfl rfl rfl <| w_ri b159 d159_18 r159 (hkw1.2 _ rfl)) (fun E w4 => (fun q => by
  obtain ⟨rfl, hsw4, hkw4⟩ := q
  show (5 + 3 ≤ 13 ∧ 4 < 5) ∧ pX 159 15 [some (.ref 0), some (iv x1), some (iv x2), some (.ref 180), none] [] w4 Q
  exact ⟨⟨by decide, by decide⟩, w_f b159 d159_15 rfl rfl rfl <| w_ri b159 d159_16 r159 hkw4⟩))) h
theorem e159 {w : PW} {Q : PO → PW → Prop} {x1 : Int} {x2 : Int} (hs : Sh w) (hx1 : bd x1) (hx2 : bd x2) (h : pC 158 [.ref 0, iv x1, iv x2] w (kH (kI fun u2 w1 => Sh w1 ∧ ∀ w3 : PW, w3 = sL w1 180 0 (i2L u2) → Q (.inl (some (iv 0))) w3) (fun E w4 => (E = 1 ∧ Sh w4 ∧ Q (.inl (some (iv 1))) w4)))) : pC 159 [.ref 0, iv x1, iv x2, .ref 180] w Q :=
  (pC_in (Nat.le_of_ble_eq_true rfl) rfl Q).mpr (v159_0 hs hx1 hx2 h)
/-! 161: PinBarrelLaw.ringsIn(LPinBarrel;I[J)I -/
theorem b161 : mB 161 = cL_ringsIn := rfl
theorem r161 : mR 161 = (some .int) := rfl
theorem d161_0 : decode cL_ringsIn 0 = .ok (.aload_n 2, 1) := by decide +kernel
theorem d161_1 : decode cL_ringsIn 1 = .ok (.iconst 0, 1) := by decide +kernel
theorem d161_2 : decode cL_ringsIn 2 = .ok (.aload_n 0, 1) := by decide +kernel
theorem d161_3 : decode cL_ringsIn 3 = .ok (.iload_n 1, 1) := by decide +kernel
theorem d161_4 : decode cL_ringsIn 4 = .ok (.invokevirtual 96, 3) := by decide +kernel
theorem d161_7 : decode cL_ringsIn 7 = .ok (.i2l, 1) := by decide +kernel
theorem d161_8 : decode cL_ringsIn 8 = .ok (.lastore, 1) := by decide +kernel
theorem d161_9 : decode cL_ringsIn 9 = .ok (.goto 6, 3) := by decide +kernel
theorem d161_13 : decode cL_ringsIn 13 = .ok (.iconst 1, 1) := by decide +kernel
theorem d161_14 : decode cL_ringsIn 14 = .ok (.ireturn, 1) := by decide +kernel
theorem d161_15 : decode cL_ringsIn 15 = .ok (.iconst 0, 1) := by decide +kernel
theorem d161_16 : decode cL_ringsIn 16 = .ok (.ireturn, 1) := by decide +kernel
theorem v161_0 {w : PW} {Q : PO → PW → Prop} {x1 : Int} (hs : Sh w) (hx1 : bd x1) (h : pC 160 [.ref 0, iv x1] w (kH (kI fun u2 w1 => Sh w1 ∧ ∀ w3 : PW, w3 = sL w1 180 0 (i2L u2) → Q (.inl (some (iv 0))) w3) (fun E w4 => (E = 1 ∧ Sh w4 ∧ Q (.inl (some (iv 1))) w4)))) : pX 161 0 [some (.ref 0), some (iv x1), some (.ref 180), none] [] w Q :=
  w_f b161 d161_0 rfl rfl rfl <| w_f b161 d161_1 rfl rfl rfl <| w_f b161 d161_2 rfl rfl rfl <| w_f b161 d161_3 rfl rfl rfl <| w_c b161 d161_4 rfl (pcl_v (n := 1) rfl rfl rfl (by decide +kernel) (sh_isOb hs (tlt 0 rfl) tbC_0) rfl rfl) rfl _ (hK_H (hK_I fun u2 w1 hbu2 hkw1 => w_f b161 d161_7 rfl rfl rfl <| w_las b161 d161_8 rfl hkw1.1 (tlt 180 rfl) tbC_180 (bdix (n := 1) ⟨by decide, by decide⟩ rfl) ⟨by decide, by decide⟩ <| w_j b161 d161_9 rfl (by decide +kernel) <| w_f b161 d161_15 rfl rfl rfl <| w_ri b161 d161_16 r161 (hkw1.2 _ rfl)) (fun E w4 => (fun q => by
  obtain ⟨rfl, hsw4, hkw4⟩ := q
  show (4 + 3 ≤ 12 ∧ 3 < 4) ∧ pX 161 13 [some (.ref 0), some (iv x1), some (.ref 180), none] [] w4 Q
  exact ⟨⟨by decide, by decide⟩, w_f b161 d161_13 rfl rfl rfl <| w_ri b161 d161_14 r161 hkw4⟩))) h
theorem e161 {w : PW} {Q : PO → PW → Prop} {x1 : Int} (hs : Sh w) (hx1 : bd x1) (h : pC 160 [.ref 0, iv x1] w (kH (kI fun u2 w1 => Sh w1 ∧ ∀ w3 : PW, w3 = sL w1 180 0 (i2L u2) → Q (.inl (some (iv 0))) w3) (fun E w4 => (E = 1 ∧ Sh w4 ∧ Q (.inl (some (iv 1))) w4)))) : pC 161 [.ref 0, iv x1, .ref 180] w Q :=
  (pC_in (Nat.le_of_ble_eq_true rfl) rfl Q).mpr (v161_0 hs hx1 h)
/-! 163: PinBarrelLaw.buzzesIn(LPinBarrel;I[J)I -/
theorem b163 : mB 163 = cL_buzzesIn := rfl
theorem r163 : mR 163 = (some .int) := rfl
theorem d163_0 : decode cL_buzzesIn 0 = .ok (.aload_n 2, 1) := by decide +kernel
theorem d163_1 : decode cL_buzzesIn 1 = .ok (.iconst 0, 1) := by decide +kernel
theorem d163_2 : decode cL_buzzesIn 2 = .ok (.aload_n 0, 1) := by decide +kernel
theorem d163_3 : decode cL_buzzesIn 3 = .ok (.iload_n 1, 1) := by decide +kernel
theorem d163_4 : decode cL_buzzesIn 4 = .ok (.invokevirtual 99, 3) := by decide +kernel
theorem d163_7 : decode cL_buzzesIn 7 = .ok (.i2l, 1) := by decide +kernel
theorem d163_8 : decode cL_buzzesIn 8 = .ok (.lastore, 1) := by decide +kernel
theorem d163_9 : decode cL_buzzesIn 9 = .ok (.goto 6, 3) := by decide +kernel
theorem d163_13 : decode cL_buzzesIn 13 = .ok (.iconst 1, 1) := by decide +kernel
theorem d163_14 : decode cL_buzzesIn 14 = .ok (.ireturn, 1) := by decide +kernel
theorem d163_15 : decode cL_buzzesIn 15 = .ok (.iconst 0, 1) := by decide +kernel
theorem d163_16 : decode cL_buzzesIn 16 = .ok (.ireturn, 1) := by decide +kernel
theorem v163_0 {w : PW} {Q : PO → PW → Prop} {x1 : Int} (hs : Sh w) (hx1 : bd x1) (h : pC 162 [.ref 0, iv x1] w (kH (kI fun u2 w1 => Sh w1 ∧ ∀ w3 : PW, w3 = sL w1 180 0 (i2L u2) → Q (.inl (some (iv 0))) w3) (fun E w4 => (E = 1 ∧ Sh w4 ∧ Q (.inl (some (iv 1))) w4)))) : pX 163 0 [some (.ref 0), some (iv x1), some (.ref 180), none] [] w Q :=
  w_f b163 d163_0 rfl rfl rfl <| w_f b163 d163_1 rfl rfl rfl <| w_f b163 d163_2 rfl rfl rfl <| w_f b163 d163_3 rfl rfl rfl <| w_c b163 d163_4 rfl (pcl_v (n := 1) rfl rfl rfl (by decide +kernel) (sh_isOb hs (tlt 0 rfl) tbC_0) rfl rfl) rfl _ (hK_H (hK_I fun u2 w1 hbu2 hkw1 => w_f b163 d163_7 rfl rfl rfl <| w_las b163 d163_8 rfl hkw1.1 (tlt 180 rfl) tbC_180 (bdix (n := 1) ⟨by decide, by decide⟩ rfl) ⟨by decide, by decide⟩ <| w_j b163 d163_9 rfl (by decide +kernel) <| w_f b163 d163_15 rfl rfl rfl <| w_ri b163 d163_16 r163 (hkw1.2 _ rfl)) (fun E w4 => (fun q => by
  obtain ⟨rfl, hsw4, hkw4⟩ := q
  show (4 + 3 ≤ 12 ∧ 3 < 4) ∧ pX 163 13 [some (.ref 0), some (iv x1), some (.ref 180), none] [] w4 Q
  exact ⟨⟨by decide, by decide⟩, w_f b163 d163_13 rfl rfl rfl <| w_ri b163 d163_14 r163 hkw4⟩))) h
theorem e163 {w : PW} {Q : PO → PW → Prop} {x1 : Int} (hs : Sh w) (hx1 : bd x1) (h : pC 162 [.ref 0, iv x1] w (kH (kI fun u2 w1 => Sh w1 ∧ ∀ w3 : PW, w3 = sL w1 180 0 (i2L u2) → Q (.inl (some (iv 0))) w3) (fun E w4 => (E = 1 ∧ Sh w4 ∧ Q (.inl (some (iv 1))) w4)))) : pC 163 [.ref 0, iv x1, .ref 180] w Q :=
  (pC_in (Nat.le_of_ble_eq_true rfl) rfl Q).mpr (v163_0 hs hx1 h)
/-! 166: PinBarrelLaw.addNote(LPinBarrel;III[J)I -/
theorem b166 : mB 166 = cL_addNote := rfl
theorem r166 : mR 166 = (some .int) := rfl
theorem d166_0 : decode cL_addNote 0 = .ok (.aload 4, 2) := by decide +kernel
theorem d166_2 : decode cL_addNote 2 = .ok (.iconst 0, 1) := by decide +kernel
theorem d166_3 : decode cL_addNote 3 = .ok (.aload_n 0, 1) := by decide +kernel
theorem d166_4 : decode cL_addNote 4 = .ok (.iload_n 1, 1) := by decide +kernel
theorem d166_5 : decode cL_addNote 5 = .ok (.iload_n 2, 1) := by decide +kernel
theorem d166_6 : decode cL_addNote 6 = .ok (.iload_n 3, 1) := by decide +kernel
theorem d166_7 : decode cL_addNote 7 = .ok (.invokevirtual 102, 3) := by decide +kernel
theorem d166_10 : decode cL_addNote 10 = .ok (.i2l, 1) := by decide +kernel
theorem d166_11 : decode cL_addNote 11 = .ok (.lastore, 1) := by decide +kernel
theorem d166_12 : decode cL_addNote 12 = .ok (.goto 7, 3) := by decide +kernel
theorem d166_17 : decode cL_addNote 17 = .ok (.iconst 1, 1) := by decide +kernel
theorem d166_18 : decode cL_addNote 18 = .ok (.ireturn, 1) := by decide +kernel
theorem d166_19 : decode cL_addNote 19 = .ok (.iconst 0, 1) := by decide +kernel
theorem d166_20 : decode cL_addNote 20 = .ok (.ireturn, 1) := by decide +kernel
theorem v166_0 {w : PW} {Q : PO → PW → Prop} {x1 : Int} {x2 : Int} {x3 : Int} (hs : Sh w) (hx1 : bd x1) (hx2 : bd x2) (hx3 : bd x3) (h : pC 165 [.ref 0, iv x1, iv x2, iv x3] w (kH (kI fun u2 w1 => Sh w1 ∧ ∀ w3 : PW, w3 = sL w1 180 0 (i2L u2) → Q (.inl (some (iv 0))) w3) (fun E w4 => (E = 1 ∧ Sh w4 ∧ Q (.inl (some (iv 1))) w4)))) : pX 166 0 [some (.ref 0), some (iv x1), some (iv x2), some (iv x3), some (.ref 180), none] [] w Q :=
  w_f b166 d166_0 rfl rfl rfl <| w_f b166 d166_2 rfl rfl rfl <| w_f b166 d166_3 rfl rfl rfl <| w_f b166 d166_4 rfl rfl rfl <| w_f b166 d166_5 rfl rfl rfl <| w_f b166 d166_6 rfl rfl rfl <| w_c b166 d166_7 rfl (pcl_v (n := 3) rfl rfl rfl (by decide +kernel) (sh_isOb hs (tlt 0 rfl) tbC_0) rfl rfl) rfl _ (hK_H (hK_I fun u2 w1 hbu2 hkw1 => w_f b166 d166_10 rfl rfl rfl <| w_las b166 d166_11 rfl hkw1.1 (tlt 180 rfl) tbC_180 (bdix (n := 1) ⟨by decide, by decide⟩ rfl) ⟨by decide, by decide⟩ <| w_j b166 d166_12 rfl (by decide +kernel) <| w_f b166 d166_19 rfl rfl rfl <| w_ri b166 d166_20 r166 (hkw1.2 _ rfl)) (fun E w4 => (fun q => by
  obtain ⟨rfl, hsw4, hkw4⟩ := q
  show (7 + 3 ≤ 15 ∧ 5 < 6) ∧ pX 166 17 [some (.ref 0), some (iv x1), some (iv x2), some (iv x3), some (.ref 180), none] [] w4 Q
  exact ⟨⟨by decide, by decide⟩, w_f b166 d166_17 rfl rfl rfl <| w_ri b166 d166_18 r166 hkw4⟩))) h
theorem e166 {w : PW} {Q : PO → PW → Prop} {x1 : Int} {x2 : Int} {x3 : Int} (hs : Sh w) (hx1 : bd x1) (hx2 : bd x2) (hx3 : bd x3) (h : pC 165 [.ref 0, iv x1, iv x2, iv x3] w (kH (kI fun u2 w1 => Sh w1 ∧ ∀ w3 : PW, w3 = sL w1 180 0 (i2L u2) → Q (.inl (some (iv 0))) w3) (fun E w4 => (E = 1 ∧ Sh w4 ∧ Q (.inl (some (iv 1))) w4)))) : pC 166 [.ref 0, iv x1, iv x2, iv x3, .ref 180] w Q :=
  (pC_in (Nat.le_of_ble_eq_true rfl) rfl Q).mpr (v166_0 hs hx1 hx2 hx3 h)
/-! 169: PinBarrelLaw.dropNote(LPinBarrel;I[J)I -/
theorem b169 : mB 169 = cL_dropNote := rfl
theorem r169 : mR 169 = (some .int) := rfl
theorem d169_0 : decode cL_dropNote 0 = .ok (.aload_n 2, 1) := by decide +kernel
theorem d169_1 : decode cL_dropNote 1 = .ok (.iconst 0, 1) := by decide +kernel
theorem d169_2 : decode cL_dropNote 2 = .ok (.aload_n 0, 1) := by decide +kernel
theorem d169_3 : decode cL_dropNote 3 = .ok (.iload_n 1, 1) := by decide +kernel
theorem d169_4 : decode cL_dropNote 4 = .ok (.invokevirtual 105, 3) := by decide +kernel
theorem d169_7 : decode cL_dropNote 7 = .ok (.i2l, 1) := by decide +kernel
theorem d169_8 : decode cL_dropNote 8 = .ok (.lastore, 1) := by decide +kernel
theorem d169_9 : decode cL_dropNote 9 = .ok (.goto 6, 3) := by decide +kernel
theorem d169_13 : decode cL_dropNote 13 = .ok (.iconst 1, 1) := by decide +kernel
theorem d169_14 : decode cL_dropNote 14 = .ok (.ireturn, 1) := by decide +kernel
theorem d169_15 : decode cL_dropNote 15 = .ok (.iconst 0, 1) := by decide +kernel
theorem d169_16 : decode cL_dropNote 16 = .ok (.ireturn, 1) := by decide +kernel
theorem v169_0 {w : PW} {Q : PO → PW → Prop} {x1 : Int} (hs : Sh w) (hx1 : bd x1) (h : pC 168 [.ref 0, iv x1] w (kH (kI fun u2 w1 => Sh w1 ∧ ∀ w3 : PW, w3 = sL w1 180 0 (i2L u2) → Q (.inl (some (iv 0))) w3) (fun E w4 => (E = 2 ∧ Sh w4 ∧ Q (.inl (some (iv 1))) w4)))) : pX 169 0 [some (.ref 0), some (iv x1), some (.ref 180), none] [] w Q :=
  w_f b169 d169_0 rfl rfl rfl <| w_f b169 d169_1 rfl rfl rfl <| w_f b169 d169_2 rfl rfl rfl <| w_f b169 d169_3 rfl rfl rfl <| w_c b169 d169_4 rfl (pcl_v (n := 1) rfl rfl rfl (by decide +kernel) (sh_isOb hs (tlt 0 rfl) tbC_0) rfl rfl) rfl _ (hK_H (hK_I fun u2 w1 hbu2 hkw1 => w_f b169 d169_7 rfl rfl rfl <| w_las b169 d169_8 rfl hkw1.1 (tlt 180 rfl) tbC_180 (bdix (n := 1) ⟨by decide, by decide⟩ rfl) ⟨by decide, by decide⟩ <| w_j b169 d169_9 rfl (by decide +kernel) <| w_f b169 d169_15 rfl rfl rfl <| w_ri b169 d169_16 r169 (hkw1.2 _ rfl)) (fun E w4 => (fun q => by
  obtain ⟨rfl, hsw4, hkw4⟩ := q
  show (4 + 3 ≤ 12 ∧ 3 < 4) ∧ pX 169 13 [some (.ref 0), some (iv x1), some (.ref 180), none] [] w4 Q
  exact ⟨⟨by decide, by decide⟩, w_f b169 d169_13 rfl rfl rfl <| w_ri b169 d169_14 r169 hkw4⟩))) h
theorem e169 {w : PW} {Q : PO → PW → Prop} {x1 : Int} (hs : Sh w) (hx1 : bd x1) (h : pC 168 [.ref 0, iv x1] w (kH (kI fun u2 w1 => Sh w1 ∧ ∀ w3 : PW, w3 = sL w1 180 0 (i2L u2) → Q (.inl (some (iv 0))) w3) (fun E w4 => (E = 2 ∧ Sh w4 ∧ Q (.inl (some (iv 1))) w4)))) : pC 169 [.ref 0, iv x1, .ref 180] w Q :=
  (pC_in (Nat.le_of_ble_eq_true rfl) rfl Q).mpr (v169_0 hs hx1 h)
/-! 171: PinBarrelLaw.addTooth(LPinBarrel;II[J)I -/
theorem b171 : mB 171 = cL_addTooth := rfl
theorem r171 : mR 171 = (some .int) := rfl
theorem d171_0 : decode cL_addTooth 0 = .ok (.aload_n 3, 1) := by decide +kernel
theorem d171_1 : decode cL_addTooth 1 = .ok (.iconst 0, 1) := by decide +kernel
theorem d171_2 : decode cL_addTooth 2 = .ok (.aload_n 0, 1) := by decide +kernel
theorem d171_3 : decode cL_addTooth 3 = .ok (.iload_n 1, 1) := by decide +kernel
theorem d171_4 : decode cL_addTooth 4 = .ok (.iload_n 2, 1) := by decide +kernel
theorem d171_5 : decode cL_addTooth 5 = .ok (.invokevirtual 108, 3) := by decide +kernel
theorem d171_8 : decode cL_addTooth 8 = .ok (.i2l, 1) := by decide +kernel
theorem d171_9 : decode cL_addTooth 9 = .ok (.lastore, 1) := by decide +kernel
theorem d171_10 : decode cL_addTooth 10 = .ok (.goto 7, 3) := by decide +kernel
theorem d171_15 : decode cL_addTooth 15 = .ok (.iconst 1, 1) := by decide +kernel
theorem d171_16 : decode cL_addTooth 16 = .ok (.ireturn, 1) := by decide +kernel
theorem d171_17 : decode cL_addTooth 17 = .ok (.iconst 0, 1) := by decide +kernel
theorem d171_18 : decode cL_addTooth 18 = .ok (.ireturn, 1) := by decide +kernel
theorem v171_0 {w : PW} {Q : PO → PW → Prop} {x1 : Int} {x2 : Int} (hs : Sh w) (hx1 : bd x1) (hx2 : bd x2) (h : pC 170 [.ref 0, iv x1, iv x2] w (kH (kI fun u2 w1 => Sh w1 ∧ ∀ w3 : PW, w3 = sL w1 180 0 (i2L u2) → Q (.inl (some (iv 0))) w3) (fun E w4 => (E = 1 ∧ Sh w4 ∧ Q (.inl (some (iv 1))) w4)))) : pX 171 0 [some (.ref 0), some (iv x1), some (iv x2), some (.ref 180), none] [] w Q :=
  w_f b171 d171_0 rfl rfl rfl <| w_f b171 d171_1 rfl rfl rfl <| w_f b171 d171_2 rfl rfl rfl <| w_f b171 d171_3 rfl rfl rfl <| w_f b171 d171_4 rfl rfl rfl <| w_c b171 d171_5 rfl (pcl_v (n := 2) rfl rfl rfl (by decide +kernel) (sh_isOb hs (tlt 0 rfl) tbC_0) rfl rfl) rfl _ (hK_H (hK_I fun u2 w1 hbu2 hkw1 => w_f b171 d171_8 rfl rfl rfl <| w_las b171 d171_9 rfl hkw1.1 (tlt 180 rfl) tbC_180 (bdix (n := 1) ⟨by decide, by decide⟩ rfl) ⟨by decide, by decide⟩ <| w_j b171 d171_10 rfl (by decide +kernel) <| w_f b171 d171_17 rfl rfl rfl <| w_ri b171 d171_18 r171 (hkw1.2 _ rfl)) (fun E w4 => (fun q => by
  obtain ⟨rfl, hsw4, hkw4⟩ := q
  show (5 + 3 ≤ 13 ∧ 4 < 5) ∧ pX 171 15 [some (.ref 0), some (iv x1), some (iv x2), some (.ref 180), none] [] w4 Q
  exact ⟨⟨by decide, by decide⟩, w_f b171 d171_15 rfl rfl rfl <| w_ri b171 d171_16 r171 hkw4⟩))) h
theorem e171 {w : PW} {Q : PO → PW → Prop} {x1 : Int} {x2 : Int} (hs : Sh w) (hx1 : bd x1) (hx2 : bd x2) (h : pC 170 [.ref 0, iv x1, iv x2] w (kH (kI fun u2 w1 => Sh w1 ∧ ∀ w3 : PW, w3 = sL w1 180 0 (i2L u2) → Q (.inl (some (iv 0))) w3) (fun E w4 => (E = 1 ∧ Sh w4 ∧ Q (.inl (some (iv 1))) w4)))) : pC 171 [.ref 0, iv x1, iv x2, .ref 180] w Q :=
  (pC_in (Nat.le_of_ble_eq_true rfl) rfl Q).mpr (v171_0 hs hx1 hx2 h)
/-! 173: PinBarrelLaw.setRest(LPinBarrel;II[J)I -/
theorem b173 : mB 173 = cL_setRest := rfl
theorem r173 : mR 173 = (some .int) := rfl
theorem d173_0 : decode cL_setRest 0 = .ok (.aload_n 3, 1) := by decide +kernel
theorem d173_1 : decode cL_setRest 1 = .ok (.iconst 0, 1) := by decide +kernel
theorem d173_2 : decode cL_setRest 2 = .ok (.aload_n 0, 1) := by decide +kernel
theorem d173_3 : decode cL_setRest 3 = .ok (.iload_n 1, 1) := by decide +kernel
theorem d173_4 : decode cL_setRest 4 = .ok (.iload_n 2, 1) := by decide +kernel
theorem d173_5 : decode cL_setRest 5 = .ok (.invokevirtual 111, 3) := by decide +kernel
theorem d173_8 : decode cL_setRest 8 = .ok (.i2l, 1) := by decide +kernel
theorem d173_9 : decode cL_setRest 9 = .ok (.lastore, 1) := by decide +kernel
theorem d173_10 : decode cL_setRest 10 = .ok (.goto 11, 3) := by decide +kernel
theorem d173_15 : decode cL_setRest 15 = .ok (.iconst 1, 1) := by decide +kernel
theorem d173_16 : decode cL_setRest 16 = .ok (.ireturn, 1) := by decide +kernel
theorem d173_19 : decode cL_setRest 19 = .ok (.iconst 2, 1) := by decide +kernel
theorem d173_20 : decode cL_setRest 20 = .ok (.ireturn, 1) := by decide +kernel
theorem d173_21 : decode cL_setRest 21 = .ok (.iconst 0, 1) := by decide +kernel
theorem d173_22 : decode cL_setRest 22 = .ok (.ireturn, 1) := by decide +kernel
theorem v173_0 {w : PW} {Q : PO → PW → Prop} {x1 : Int} {x2 : Int} (hs : Sh w) (hx1 : bd x1) (hx2 : bd x2) (h : pC 172 [.ref 0, iv x1, iv x2] w (kH (kI fun u2 w1 => Sh w1 ∧ ∀ w3 : PW, w3 = sL w1 180 0 (i2L u2) → Q (.inl (some (iv 0))) w3) (fun E w4 => (E = 1 ∧ Sh w4 ∧ Q (.inl (some (iv 2))) w4) ∨ (E = 2 ∧ Sh w4 ∧ Q (.inl (some (iv 1))) w4)))) : pX 173 0 [some (.ref 0), some (iv x1), some (iv x2), some (.ref 180), none] [] w Q :=
  w_f b173 d173_0 rfl rfl rfl <| w_f b173 d173_1 rfl rfl rfl <| w_f b173 d173_2 rfl rfl rfl <| w_f b173 d173_3 rfl rfl rfl <| w_f b173 d173_4 rfl rfl rfl <| w_c b173 d173_5 rfl (pcl_v (n := 2) rfl rfl rfl (by decide +kernel) (sh_isOb hs (tlt 0 rfl) tbC_0) rfl rfl) rfl _ (hK_H (hK_I fun u2 w1 hbu2 hkw1 => w_f b173 d173_8 rfl rfl rfl <| w_las b173 d173_9 rfl hkw1.1 (tlt 180 rfl) tbC_180 (bdix (n := 1) ⟨by decide, by decide⟩ rfl) ⟨by decide, by decide⟩ <| w_j b173 d173_10 rfl (by decide +kernel) <| w_f b173 d173_21 rfl rfl rfl <| w_ri b173 d173_22 r173 (hkw1.2 _ rfl)) (fun E w4 hq => hq.elim (fun q => by
  obtain ⟨rfl, hsw4, hkw4⟩ := q
  show (5 + 3 ≤ 17 ∧ 4 < 5) ∧ pX 173 19 [some (.ref 0), some (iv x1), some (iv x2), some (.ref 180), none] [] w4 Q
  exact ⟨⟨by decide, by decide⟩, w_f b173 d173_19 rfl rfl rfl <| w_ri b173 d173_20 r173 hkw4⟩) (fun q => by
  obtain ⟨rfl, hsw4, hkw4⟩ := q
  show (5 + 3 ≤ 13 ∧ 4 < 5) ∧ pX 173 15 [some (.ref 0), some (iv x1), some (iv x2), some (.ref 180), none] [] w4 Q
  exact ⟨⟨by decide, by decide⟩, w_f b173 d173_15 rfl rfl rfl <| w_ri b173 d173_16 r173 hkw4⟩))) h
theorem e173 {w : PW} {Q : PO → PW → Prop} {x1 : Int} {x2 : Int} (hs : Sh w) (hx1 : bd x1) (hx2 : bd x2) (h : pC 172 [.ref 0, iv x1, iv x2] w (kH (kI fun u2 w1 => Sh w1 ∧ ∀ w3 : PW, w3 = sL w1 180 0 (i2L u2) → Q (.inl (some (iv 0))) w3) (fun E w4 => (E = 1 ∧ Sh w4 ∧ Q (.inl (some (iv 2))) w4) ∨ (E = 2 ∧ Sh w4 ∧ Q (.inl (some (iv 1))) w4)))) : pC 173 [.ref 0, iv x1, iv x2, .ref 180] w Q :=
  (pC_in (Nat.le_of_ble_eq_true rfl) rfl Q).mpr (v173_0 hs hx1 hx2 h)
/-! 175: PinBarrelLaw.retune(LPinBarrel;II[J)I -/
theorem b175 : mB 175 = cL_retune := rfl
theorem r175 : mR 175 = (some .int) := rfl
theorem d175_0 : decode cL_retune 0 = .ok (.aload_n 3, 1) := by decide +kernel
theorem d175_1 : decode cL_retune 1 = .ok (.iconst 0, 1) := by decide +kernel
theorem d175_2 : decode cL_retune 2 = .ok (.aload_n 0, 1) := by decide +kernel
theorem d175_3 : decode cL_retune 3 = .ok (.iload_n 1, 1) := by decide +kernel
theorem d175_4 : decode cL_retune 4 = .ok (.iload_n 2, 1) := by decide +kernel
theorem d175_5 : decode cL_retune 5 = .ok (.invokevirtual 114, 3) := by decide +kernel
theorem d175_8 : decode cL_retune 8 = .ok (.i2l, 1) := by decide +kernel
theorem d175_9 : decode cL_retune 9 = .ok (.lastore, 1) := by decide +kernel
theorem d175_10 : decode cL_retune 10 = .ok (.goto 11, 3) := by decide +kernel
theorem d175_15 : decode cL_retune 15 = .ok (.iconst 1, 1) := by decide +kernel
theorem d175_16 : decode cL_retune 16 = .ok (.ireturn, 1) := by decide +kernel
theorem d175_19 : decode cL_retune 19 = .ok (.iconst 2, 1) := by decide +kernel
theorem d175_20 : decode cL_retune 20 = .ok (.ireturn, 1) := by decide +kernel
theorem d175_21 : decode cL_retune 21 = .ok (.iconst 0, 1) := by decide +kernel
theorem d175_22 : decode cL_retune 22 = .ok (.ireturn, 1) := by decide +kernel
theorem v175_0 {w : PW} {Q : PO → PW → Prop} {x1 : Int} {x2 : Int} (hs : Sh w) (hx1 : bd x1) (hx2 : bd x2) (h : pC 174 [.ref 0, iv x1, iv x2] w (kH (kI fun u2 w1 => Sh w1 ∧ ∀ w3 : PW, w3 = sL w1 180 0 (i2L u2) → Q (.inl (some (iv 0))) w3) (fun E w4 => (E = 1 ∧ Sh w4 ∧ Q (.inl (some (iv 2))) w4) ∨ (E = 2 ∧ Sh w4 ∧ Q (.inl (some (iv 1))) w4)))) : pX 175 0 [some (.ref 0), some (iv x1), some (iv x2), some (.ref 180), none] [] w Q :=
  w_f b175 d175_0 rfl rfl rfl <| w_f b175 d175_1 rfl rfl rfl <| w_f b175 d175_2 rfl rfl rfl <| w_f b175 d175_3 rfl rfl rfl <| w_f b175 d175_4 rfl rfl rfl <| w_c b175 d175_5 rfl (pcl_v (n := 2) rfl rfl rfl (by decide +kernel) (sh_isOb hs (tlt 0 rfl) tbC_0) rfl rfl) rfl _ (hK_H (hK_I fun u2 w1 hbu2 hkw1 => w_f b175 d175_8 rfl rfl rfl <| w_las b175 d175_9 rfl hkw1.1 (tlt 180 rfl) tbC_180 (bdix (n := 1) ⟨by decide, by decide⟩ rfl) ⟨by decide, by decide⟩ <| w_j b175 d175_10 rfl (by decide +kernel) <| w_f b175 d175_21 rfl rfl rfl <| w_ri b175 d175_22 r175 (hkw1.2 _ rfl)) (fun E w4 hq => hq.elim (fun q => by
  obtain ⟨rfl, hsw4, hkw4⟩ := q
  show (5 + 3 ≤ 17 ∧ 4 < 5) ∧ pX 175 19 [some (.ref 0), some (iv x1), some (iv x2), some (.ref 180), none] [] w4 Q
  exact ⟨⟨by decide, by decide⟩, w_f b175 d175_19 rfl rfl rfl <| w_ri b175 d175_20 r175 hkw4⟩) (fun q => by
  obtain ⟨rfl, hsw4, hkw4⟩ := q
  show (5 + 3 ≤ 13 ∧ 4 < 5) ∧ pX 175 15 [some (.ref 0), some (iv x1), some (iv x2), some (.ref 180), none] [] w4 Q
  exact ⟨⟨by decide, by decide⟩, w_f b175 d175_15 rfl rfl rfl <| w_ri b175 d175_16 r175 hkw4⟩))) h
theorem e175 {w : PW} {Q : PO → PW → Prop} {x1 : Int} {x2 : Int} (hs : Sh w) (hx1 : bd x1) (hx2 : bd x2) (h : pC 174 [.ref 0, iv x1, iv x2] w (kH (kI fun u2 w1 => Sh w1 ∧ ∀ w3 : PW, w3 = sL w1 180 0 (i2L u2) → Q (.inl (some (iv 0))) w3) (fun E w4 => (E = 1 ∧ Sh w4 ∧ Q (.inl (some (iv 2))) w4) ∨ (E = 2 ∧ Sh w4 ∧ Q (.inl (some (iv 1))) w4)))) : pC 175 [.ref 0, iv x1, iv x2, .ref 180] w Q :=
  (pC_in (Nat.le_of_ble_eq_true rfl) rfl Q).mpr (v175_0 hs hx1 hx2 h)
/-! 177: PinBarrelLaw.setPin(LPinBarrel;IIIZ[J)I -/
theorem b177 : mB 177 = cL_setPin := rfl
theorem r177 : mR 177 = (some .int) := rfl
theorem d177_0 : decode cL_setPin 0 = .ok (.aload 5, 2) := by decide +kernel
theorem d177_2 : decode cL_setPin 2 = .ok (.iconst 0, 1) := by decide +kernel
theorem d177_3 : decode cL_setPin 3 = .ok (.aload_n 0, 1) := by decide +kernel
theorem d177_4 : decode cL_setPin 4 = .ok (.iload_n 1, 1) := by decide +kernel
theorem d177_5 : decode cL_setPin 5 = .ok (.iload_n 2, 1) := by decide +kernel
theorem d177_6 : decode cL_setPin 6 = .ok (.iload_n 3, 1) := by decide +kernel
theorem d177_7 : decode cL_setPin 7 = .ok (.iload 4, 2) := by decide +kernel
theorem d177_9 : decode cL_setPin 9 = .ok (.invokevirtual 117, 3) := by decide +kernel
theorem d177_12 : decode cL_setPin 12 = .ok (.ifCond .eq 7, 3) := by decide +kernel
theorem d177_15 : decode cL_setPin 15 = .ok (.lconst 1, 1) := by decide +kernel
theorem d177_16 : decode cL_setPin 16 = .ok (.goto 4, 3) := by decide +kernel
theorem d177_19 : decode cL_setPin 19 = .ok (.lconst 0, 1) := by decide +kernel
theorem d177_20 : decode cL_setPin 20 = .ok (.lastore, 1) := by decide +kernel
theorem d177_21 : decode cL_setPin 21 = .ok (.goto 11, 3) := by decide +kernel
theorem d177_26 : decode cL_setPin 26 = .ok (.iconst 1, 1) := by decide +kernel
theorem d177_27 : decode cL_setPin 27 = .ok (.ireturn, 1) := by decide +kernel
theorem d177_30 : decode cL_setPin 30 = .ok (.iconst 2, 1) := by decide +kernel
theorem d177_31 : decode cL_setPin 31 = .ok (.ireturn, 1) := by decide +kernel
theorem d177_32 : decode cL_setPin 32 = .ok (.iconst 0, 1) := by decide +kernel
theorem d177_33 : decode cL_setPin 33 = .ok (.ireturn, 1) := by decide +kernel
theorem v177_0 {w : PW} {Q : PO → PW → Prop} {x1 : Int} {x2 : Int} {x3 : Int} {x4 : Int} (hs : Sh w) (hx1 : bd x1) (hx2 : bd x2) (hx3 : bd x3) (hx4 : bd x4) (h : pC 176 [.ref 0, iv x1, iv x2, iv x3, iv x4] w (kH (kI fun u2 w1 => Sh w1 ∧ (u2 = 0 → ∀ w4 : PW, w4 = sL w1 180 0 ((0 : Int64)) → Q (.inl (some (iv 0))) w4) ∧ (u2 ≠ 0 → ∀ w5 : PW, w5 = sL w1 180 0 ((1 : Int64)) → Q (.inl (some (iv 0))) w5)) (fun E w6 => (E = 1 ∧ Sh w6 ∧ Q (.inl (some (iv 1))) w6) ∨ (E = 2 ∧ Sh w6 ∧ Q (.inl (some (iv 2))) w6)))) : pX 177 0 [some (.ref 0), some (iv x1), some (iv x2), some (iv x3), some (iv x4), some (.ref 180), none] [] w Q :=
  w_f b177 d177_0 rfl rfl rfl <| w_f b177 d177_2 rfl rfl rfl <| w_f b177 d177_3 rfl rfl rfl <| w_f b177 d177_4 rfl rfl rfl <| w_f b177 d177_5 rfl rfl rfl <| w_f b177 d177_6 rfl rfl rfl <| w_f b177 d177_7 rfl rfl rfl <| w_c b177 d177_9 rfl (pcl_v (n := 4) rfl rfl rfl (by decide +kernel) (sh_isOb hs (tlt 0 rfl) tbC_0) rfl rfl) rfl _ (hK_H (hK_I fun u2 w1 hbu2 hkw1 => w_ifeq b177 d177_12 rfl rfl (by decide +kernel) hbu2 (fun c3 => w_f b177 d177_19 rfl rfl rfl <| w_las b177 d177_20 rfl hkw1.1 (tlt 180 rfl) tbC_180 (bdix (n := 1) ⟨by decide, by decide⟩ rfl) ⟨by decide, by decide⟩ <| w_j b177 d177_21 rfl (by decide +kernel) <| w_f b177 d177_32 rfl rfl rfl <| w_ri b177 d177_33 r177 ((hkw1.2.1 c3) _ rfl)) (fun c3 => w_f b177 d177_15 rfl rfl rfl <| w_j b177 d177_16 rfl (by decide +kernel) <| w_las b177 d177_20 rfl hkw1.1 (tlt 180 rfl) tbC_180 (bdix (n := 1) ⟨by decide, by decide⟩ rfl) ⟨by decide, by decide⟩ <| w_j b177 d177_21 rfl (by decide +kernel) <| w_f b177 d177_32 rfl rfl rfl <| w_ri b177 d177_33 r177 ((hkw1.2.2 c3) _ rfl))) (fun E w6 hq => hq.elim (fun q => by
  obtain ⟨rfl, hsw6, hkw6⟩ := q
  show (9 + 3 ≤ 24 ∧ 6 < 7) ∧ pX 177 26 [some (.ref 0), some (iv x1), some (iv x2), some (iv x3), some (iv x4), some (.ref 180), none] [] w6 Q
  exact ⟨⟨by decide, by decide⟩, w_f b177 d177_26 rfl rfl rfl <| w_ri b177 d177_27 r177 hkw6⟩) (fun q => by
  obtain ⟨rfl, hsw6, hkw6⟩ := q
  show (9 + 3 ≤ 28 ∧ 6 < 7) ∧ pX 177 30 [some (.ref 0), some (iv x1), some (iv x2), some (iv x3), some (iv x4), some (.ref 180), none] [] w6 Q
  exact ⟨⟨by decide, by decide⟩, w_f b177 d177_30 rfl rfl rfl <| w_ri b177 d177_31 r177 hkw6⟩))) h
theorem e177 {w : PW} {Q : PO → PW → Prop} {x1 : Int} {x2 : Int} {x3 : Int} {x4 : Int} (hs : Sh w) (hx1 : bd x1) (hx2 : bd x2) (hx3 : bd x3) (hx4 : bd x4) (h : pC 176 [.ref 0, iv x1, iv x2, iv x3, iv x4] w (kH (kI fun u2 w1 => Sh w1 ∧ (u2 = 0 → ∀ w4 : PW, w4 = sL w1 180 0 ((0 : Int64)) → Q (.inl (some (iv 0))) w4) ∧ (u2 ≠ 0 → ∀ w5 : PW, w5 = sL w1 180 0 ((1 : Int64)) → Q (.inl (some (iv 0))) w5)) (fun E w6 => (E = 1 ∧ Sh w6 ∧ Q (.inl (some (iv 1))) w6) ∨ (E = 2 ∧ Sh w6 ∧ Q (.inl (some (iv 2))) w6)))) : pC 177 [.ref 0, iv x1, iv x2, iv x3, iv x4, .ref 180] w Q :=
  (pC_in (Nat.le_of_ble_eq_true rfl) rfl Q).mpr (v177_0 hs hx1 hx2 hx3 hx4 h)
/-! 179: PinBarrelLaw.clear(LPinBarrel;I[J)I -/
theorem b179 : mB 179 = cL_clear := rfl
theorem r179 : mR 179 = (some .int) := rfl
theorem d179_0 : decode cL_clear 0 = .ok (.aload_n 2, 1) := by decide +kernel
theorem d179_1 : decode cL_clear 1 = .ok (.iconst 0, 1) := by decide +kernel
theorem d179_2 : decode cL_clear 2 = .ok (.aload_n 0, 1) := by decide +kernel
theorem d179_3 : decode cL_clear 3 = .ok (.iload_n 1, 1) := by decide +kernel
theorem d179_4 : decode cL_clear 4 = .ok (.invokevirtual 121, 3) := by decide +kernel
theorem d179_7 : decode cL_clear 7 = .ok (.i2l, 1) := by decide +kernel
theorem d179_8 : decode cL_clear 8 = .ok (.lastore, 1) := by decide +kernel
theorem d179_9 : decode cL_clear 9 = .ok (.goto 6, 3) := by decide +kernel
theorem d179_13 : decode cL_clear 13 = .ok (.iconst 1, 1) := by decide +kernel
theorem d179_14 : decode cL_clear 14 = .ok (.ireturn, 1) := by decide +kernel
theorem d179_15 : decode cL_clear 15 = .ok (.iconst 0, 1) := by decide +kernel
theorem d179_16 : decode cL_clear 16 = .ok (.ireturn, 1) := by decide +kernel
theorem v179_0 {w : PW} {Q : PO → PW → Prop} {x1 : Int} (hs : Sh w) (hx1 : bd x1) (h : pC 178 [.ref 0, iv x1] w (kH (kI fun u2 w1 => Sh w1 ∧ ∀ w3 : PW, w3 = sL w1 180 0 (i2L u2) → Q (.inl (some (iv 0))) w3) (fun E w4 => (E = 1 ∧ Sh w4 ∧ Q (.inl (some (iv 1))) w4)))) : pX 179 0 [some (.ref 0), some (iv x1), some (.ref 180), none] [] w Q :=
  w_f b179 d179_0 rfl rfl rfl <| w_f b179 d179_1 rfl rfl rfl <| w_f b179 d179_2 rfl rfl rfl <| w_f b179 d179_3 rfl rfl rfl <| w_c b179 d179_4 rfl (pcl_v (n := 1) rfl rfl rfl (by decide +kernel) (sh_isOb hs (tlt 0 rfl) tbC_0) rfl rfl) rfl _ (hK_H (hK_I fun u2 w1 hbu2 hkw1 => w_f b179 d179_7 rfl rfl rfl <| w_las b179 d179_8 rfl hkw1.1 (tlt 180 rfl) tbC_180 (bdix (n := 1) ⟨by decide, by decide⟩ rfl) ⟨by decide, by decide⟩ <| w_j b179 d179_9 rfl (by decide +kernel) <| w_f b179 d179_15 rfl rfl rfl <| w_ri b179 d179_16 r179 (hkw1.2 _ rfl)) (fun E w4 => (fun q => by
  obtain ⟨rfl, hsw4, hkw4⟩ := q
  show (4 + 3 ≤ 12 ∧ 3 < 4) ∧ pX 179 13 [some (.ref 0), some (iv x1), some (.ref 180), none] [] w4 Q
  exact ⟨⟨by decide, by decide⟩, w_f b179 d179_13 rfl rfl rfl <| w_ri b179 d179_14 r179 hkw4⟩))) h
theorem e179 {w : PW} {Q : PO → PW → Prop} {x1 : Int} (hs : Sh w) (hx1 : bd x1) (h : pC 178 [.ref 0, iv x1] w (kH (kI fun u2 w1 => Sh w1 ∧ ∀ w3 : PW, w3 = sL w1 180 0 (i2L u2) → Q (.inl (some (iv 0))) w3) (fun E w4 => (E = 1 ∧ Sh w4 ∧ Q (.inl (some (iv 1))) w4)))) : pC 179 [.ref 0, iv x1, .ref 180] w Q :=
  (pC_in (Nat.le_of_ble_eq_true rfl) rfl Q).mpr (v179_0 hs hx1 h)
/-! 182: PinBarrelLaw.lay(LPinBarrel;I[J)I -/
theorem b182 : mB 182 = cL_lay := rfl
theorem r182 : mR 182 = (some .int) := rfl
theorem d182_0 : decode cL_lay 0 = .ok (.aload_n 2, 1) := by decide +kernel
theorem d182_1 : decode cL_lay 1 = .ok (.iconst 0, 1) := by decide +kernel
theorem d182_2 : decode cL_lay 2 = .ok (.aload_n 0, 1) := by decide +kernel
theorem d182_3 : decode cL_lay 3 = .ok (.iload_n 1, 1) := by decide +kernel
theorem d182_4 : decode cL_lay 4 = .ok (.invokevirtual 124, 3) := by decide +kernel
theorem d182_7 : decode cL_lay 7 = .ok (.i2l, 1) := by decide +kernel
theorem d182_8 : decode cL_lay 8 = .ok (.lastore, 1) := by decide +kernel
theorem d182_9 : decode cL_lay 9 = .ok (.goto 6, 3) := by decide +kernel
theorem d182_13 : decode cL_lay 13 = .ok (.iconst 1, 1) := by decide +kernel
theorem d182_14 : decode cL_lay 14 = .ok (.ireturn, 1) := by decide +kernel
theorem d182_15 : decode cL_lay 15 = .ok (.iconst 0, 1) := by decide +kernel
theorem d182_16 : decode cL_lay 16 = .ok (.ireturn, 1) := by decide +kernel
theorem v182_0 {w : PW} {Q : PO → PW → Prop} {x1 : Int} (hs : Sh w) (hx1 : bd x1) (h : pC 181 [.ref 0, iv x1] w (kH (kI fun u2 w1 => Sh w1 ∧ ∀ w3 : PW, w3 = sL w1 180 0 (i2L u2) → Q (.inl (some (iv 0))) w3) (fun E w4 => (E = 1 ∧ Sh w4 ∧ Q (.inl (some (iv 1))) w4)))) : pX 182 0 [some (.ref 0), some (iv x1), some (.ref 180), none] [] w Q :=
  w_f b182 d182_0 rfl rfl rfl <| w_f b182 d182_1 rfl rfl rfl <| w_f b182 d182_2 rfl rfl rfl <| w_f b182 d182_3 rfl rfl rfl <| w_c b182 d182_4 rfl (pcl_v (n := 1) rfl rfl rfl (by decide +kernel) (sh_isOb hs (tlt 0 rfl) tbC_0) rfl rfl) rfl _ (hK_H (hK_I fun u2 w1 hbu2 hkw1 => w_f b182 d182_7 rfl rfl rfl <| w_las b182 d182_8 rfl hkw1.1 (tlt 180 rfl) tbC_180 (bdix (n := 1) ⟨by decide, by decide⟩ rfl) ⟨by decide, by decide⟩ <| w_j b182 d182_9 rfl (by decide +kernel) <| w_f b182 d182_15 rfl rfl rfl <| w_ri b182 d182_16 r182 (hkw1.2 _ rfl)) (fun E w4 => (fun q => by
  obtain ⟨rfl, hsw4, hkw4⟩ := q
  show (4 + 3 ≤ 12 ∧ 3 < 4) ∧ pX 182 13 [some (.ref 0), some (iv x1), some (.ref 180), none] [] w4 Q
  exact ⟨⟨by decide, by decide⟩, w_f b182 d182_13 rfl rfl rfl <| w_ri b182 d182_14 r182 hkw4⟩))) h
theorem e182 {w : PW} {Q : PO → PW → Prop} {x1 : Int} (hs : Sh w) (hx1 : bd x1) (h : pC 181 [.ref 0, iv x1] w (kH (kI fun u2 w1 => Sh w1 ∧ ∀ w3 : PW, w3 = sL w1 180 0 (i2L u2) → Q (.inl (some (iv 0))) w3) (fun E w4 => (E = 1 ∧ Sh w4 ∧ Q (.inl (some (iv 1))) w4)))) : pC 182 [.ref 0, iv x1, .ref 180] w Q :=
  (pC_in (Nat.le_of_ble_eq_true rfl) rfl Q).mpr (v182_0 hs hx1 h)
/-! 186: PinBarrelLaw.transpose(LPinBarrel;II[J)I -/
theorem b186 : mB 186 = cL_transpose := rfl
theorem r186 : mR 186 = (some .int) := rfl
theorem d186_0 : decode cL_transpose 0 = .ok (.aload_n 3, 1) := by decide +kernel
theorem d186_1 : decode cL_transpose 1 = .ok (.iconst 0, 1) := by decide +kernel
theorem d186_2 : decode cL_transpose 2 = .ok (.aload_n 0, 1) := by decide +kernel
theorem d186_3 : decode cL_transpose 3 = .ok (.iload_n 1, 1) := by decide +kernel
theorem d186_4 : decode cL_transpose 4 = .ok (.iload_n 2, 1) := by decide +kernel
theorem d186_5 : decode cL_transpose 5 = .ok (.invokevirtual 127, 3) := by decide +kernel
theorem d186_8 : decode cL_transpose 8 = .ok (.i2l, 1) := by decide +kernel
theorem d186_9 : decode cL_transpose 9 = .ok (.lastore, 1) := by decide +kernel
theorem d186_10 : decode cL_transpose 10 = .ok (.goto 7, 3) := by decide +kernel
theorem d186_15 : decode cL_transpose 15 = .ok (.iconst 1, 1) := by decide +kernel
theorem d186_16 : decode cL_transpose 16 = .ok (.ireturn, 1) := by decide +kernel
theorem d186_17 : decode cL_transpose 17 = .ok (.iconst 0, 1) := by decide +kernel
theorem d186_18 : decode cL_transpose 18 = .ok (.ireturn, 1) := by decide +kernel
theorem v186_0 {w : PW} {Q : PO → PW → Prop} {x1 : Int} {x2 : Int} (hs : Sh w) (hx1 : bd x1) (hx2 : bd x2) (h : pC 185 [.ref 0, iv x1, iv x2] w (kH (kI fun u2 w1 => Sh w1 ∧ ∀ w3 : PW, w3 = sL w1 180 0 (i2L u2) → Q (.inl (some (iv 0))) w3) (fun E w4 => (E = 1 ∧ Sh w4 ∧ Q (.inl (some (iv 1))) w4)))) : pX 186 0 [some (.ref 0), some (iv x1), some (iv x2), some (.ref 180), none] [] w Q :=
  w_f b186 d186_0 rfl rfl rfl <| w_f b186 d186_1 rfl rfl rfl <| w_f b186 d186_2 rfl rfl rfl <| w_f b186 d186_3 rfl rfl rfl <| w_f b186 d186_4 rfl rfl rfl <| w_c b186 d186_5 rfl (pcl_v (n := 2) rfl rfl rfl (by decide +kernel) (sh_isOb hs (tlt 0 rfl) tbC_0) rfl rfl) rfl _ (hK_H (hK_I fun u2 w1 hbu2 hkw1 => w_f b186 d186_8 rfl rfl rfl <| w_las b186 d186_9 rfl hkw1.1 (tlt 180 rfl) tbC_180 (bdix (n := 1) ⟨by decide, by decide⟩ rfl) ⟨by decide, by decide⟩ <| w_j b186 d186_10 rfl (by decide +kernel) <| w_f b186 d186_17 rfl rfl rfl <| w_ri b186 d186_18 r186 (hkw1.2 _ rfl)) (fun E w4 => (fun q => by
  obtain ⟨rfl, hsw4, hkw4⟩ := q
  show (5 + 3 ≤ 13 ∧ 4 < 5) ∧ pX 186 15 [some (.ref 0), some (iv x1), some (iv x2), some (.ref 180), none] [] w4 Q
  exact ⟨⟨by decide, by decide⟩, w_f b186 d186_15 rfl rfl rfl <| w_ri b186 d186_16 r186 hkw4⟩))) h
theorem e186 {w : PW} {Q : PO → PW → Prop} {x1 : Int} {x2 : Int} (hs : Sh w) (hx1 : bd x1) (hx2 : bd x2) (h : pC 185 [.ref 0, iv x1, iv x2] w (kH (kI fun u2 w1 => Sh w1 ∧ ∀ w3 : PW, w3 = sL w1 180 0 (i2L u2) → Q (.inl (some (iv 0))) w3) (fun E w4 => (E = 1 ∧ Sh w4 ∧ Q (.inl (some (iv 1))) w4)))) : pC 186 [.ref 0, iv x1, iv x2, .ref 180] w Q :=
  (pC_in (Nat.le_of_ble_eq_true rfl) rfl Q).mpr (v186_0 hs hx1 hx2 h)
/-! 189: PinBarrelLaw.turn(LPinBarrel;II[J)I -/
theorem b189 : mB 189 = cL_turn := rfl
theorem r189 : mR 189 = (some .int) := rfl
theorem d189_0 : decode cL_turn 0 = .ok (.aload_n 3, 1) := by decide +kernel
theorem d189_1 : decode cL_turn 1 = .ok (.iconst 0, 1) := by decide +kernel
theorem d189_2 : decode cL_turn 2 = .ok (.aload_n 0, 1) := by decide +kernel
theorem d189_3 : decode cL_turn 3 = .ok (.iload_n 1, 1) := by decide +kernel
theorem d189_4 : decode cL_turn 4 = .ok (.iload_n 2, 1) := by decide +kernel
theorem d189_5 : decode cL_turn 5 = .ok (.invokevirtual 130, 3) := by decide +kernel
theorem d189_8 : decode cL_turn 8 = .ok (.i2l, 1) := by decide +kernel
theorem d189_9 : decode cL_turn 9 = .ok (.lastore, 1) := by decide +kernel
theorem d189_10 : decode cL_turn 10 = .ok (.goto 7, 3) := by decide +kernel
theorem d189_15 : decode cL_turn 15 = .ok (.iconst 1, 1) := by decide +kernel
theorem d189_16 : decode cL_turn 16 = .ok (.ireturn, 1) := by decide +kernel
theorem d189_17 : decode cL_turn 17 = .ok (.iconst 0, 1) := by decide +kernel
theorem d189_18 : decode cL_turn 18 = .ok (.ireturn, 1) := by decide +kernel
theorem v189_0 {w : PW} {Q : PO → PW → Prop} {x1 : Int} {x2 : Int} (hs : Sh w) (hx1 : bd x1) (hx2 : bd x2) (h : pC 188 [.ref 0, iv x1, iv x2] w (kH (kI fun u2 w1 => Sh w1 ∧ ∀ w3 : PW, w3 = sL w1 180 0 (i2L u2) → Q (.inl (some (iv 0))) w3) (fun E w4 => (E = 1 ∧ Sh w4 ∧ Q (.inl (some (iv 1))) w4)))) : pX 189 0 [some (.ref 0), some (iv x1), some (iv x2), some (.ref 180), none] [] w Q :=
  w_f b189 d189_0 rfl rfl rfl <| w_f b189 d189_1 rfl rfl rfl <| w_f b189 d189_2 rfl rfl rfl <| w_f b189 d189_3 rfl rfl rfl <| w_f b189 d189_4 rfl rfl rfl <| w_c b189 d189_5 rfl (pcl_v (n := 2) rfl rfl rfl (by decide +kernel) (sh_isOb hs (tlt 0 rfl) tbC_0) rfl rfl) rfl _ (hK_H (hK_I fun u2 w1 hbu2 hkw1 => w_f b189 d189_8 rfl rfl rfl <| w_las b189 d189_9 rfl hkw1.1 (tlt 180 rfl) tbC_180 (bdix (n := 1) ⟨by decide, by decide⟩ rfl) ⟨by decide, by decide⟩ <| w_j b189 d189_10 rfl (by decide +kernel) <| w_f b189 d189_17 rfl rfl rfl <| w_ri b189 d189_18 r189 (hkw1.2 _ rfl)) (fun E w4 => (fun q => by
  obtain ⟨rfl, hsw4, hkw4⟩ := q
  show (5 + 3 ≤ 13 ∧ 4 < 5) ∧ pX 189 15 [some (.ref 0), some (iv x1), some (iv x2), some (.ref 180), none] [] w4 Q
  exact ⟨⟨by decide, by decide⟩, w_f b189 d189_15 rfl rfl rfl <| w_ri b189 d189_16 r189 hkw4⟩))) h
theorem e189 {w : PW} {Q : PO → PW → Prop} {x1 : Int} {x2 : Int} (hs : Sh w) (hx1 : bd x1) (hx2 : bd x2) (h : pC 188 [.ref 0, iv x1, iv x2] w (kH (kI fun u2 w1 => Sh w1 ∧ ∀ w3 : PW, w3 = sL w1 180 0 (i2L u2) → Q (.inl (some (iv 0))) w3) (fun E w4 => (E = 1 ∧ Sh w4 ∧ Q (.inl (some (iv 1))) w4)))) : pC 189 [.ref 0, iv x1, iv x2, .ref 180] w Q :=
  (pC_in (Nat.le_of_ble_eq_true rfl) rfl Q).mpr (v189_0 hs hx1 hx2 h)
/-! 194: PinBarrelLaw.reverse(LPinBarrel;I[J)I -/
theorem b194 : mB 194 = cL_reverse := rfl
theorem r194 : mR 194 = (some .int) := rfl
theorem d194_0 : decode cL_reverse 0 = .ok (.aload_n 2, 1) := by decide +kernel
theorem d194_1 : decode cL_reverse 1 = .ok (.iconst 0, 1) := by decide +kernel
theorem d194_2 : decode cL_reverse 2 = .ok (.aload_n 0, 1) := by decide +kernel
theorem d194_3 : decode cL_reverse 3 = .ok (.iload_n 1, 1) := by decide +kernel
theorem d194_4 : decode cL_reverse 4 = .ok (.invokevirtual 133, 3) := by decide +kernel
theorem d194_7 : decode cL_reverse 7 = .ok (.i2l, 1) := by decide +kernel
theorem d194_8 : decode cL_reverse 8 = .ok (.lastore, 1) := by decide +kernel
theorem d194_9 : decode cL_reverse 9 = .ok (.goto 6, 3) := by decide +kernel
theorem d194_13 : decode cL_reverse 13 = .ok (.iconst 1, 1) := by decide +kernel
theorem d194_14 : decode cL_reverse 14 = .ok (.ireturn, 1) := by decide +kernel
theorem d194_15 : decode cL_reverse 15 = .ok (.iconst 0, 1) := by decide +kernel
theorem d194_16 : decode cL_reverse 16 = .ok (.ireturn, 1) := by decide +kernel
theorem v194_0 {w : PW} {Q : PO → PW → Prop} {x1 : Int} (hs : Sh w) (hx1 : bd x1) (h : pC 193 [.ref 0, iv x1] w (kH (kI fun u2 w1 => Sh w1 ∧ ∀ w3 : PW, w3 = sL w1 180 0 (i2L u2) → Q (.inl (some (iv 0))) w3) (fun E w4 => (E = 1 ∧ Sh w4 ∧ Q (.inl (some (iv 1))) w4)))) : pX 194 0 [some (.ref 0), some (iv x1), some (.ref 180), none] [] w Q :=
  w_f b194 d194_0 rfl rfl rfl <| w_f b194 d194_1 rfl rfl rfl <| w_f b194 d194_2 rfl rfl rfl <| w_f b194 d194_3 rfl rfl rfl <| w_c b194 d194_4 rfl (pcl_v (n := 1) rfl rfl rfl (by decide +kernel) (sh_isOb hs (tlt 0 rfl) tbC_0) rfl rfl) rfl _ (hK_H (hK_I fun u2 w1 hbu2 hkw1 => w_f b194 d194_7 rfl rfl rfl <| w_las b194 d194_8 rfl hkw1.1 (tlt 180 rfl) tbC_180 (bdix (n := 1) ⟨by decide, by decide⟩ rfl) ⟨by decide, by decide⟩ <| w_j b194 d194_9 rfl (by decide +kernel) <| w_f b194 d194_15 rfl rfl rfl <| w_ri b194 d194_16 r194 (hkw1.2 _ rfl)) (fun E w4 => (fun q => by
  obtain ⟨rfl, hsw4, hkw4⟩ := q
  show (4 + 3 ≤ 12 ∧ 3 < 4) ∧ pX 194 13 [some (.ref 0), some (iv x1), some (.ref 180), none] [] w4 Q
  exact ⟨⟨by decide, by decide⟩, w_f b194 d194_13 rfl rfl rfl <| w_ri b194 d194_14 r194 hkw4⟩))) h
theorem e194 {w : PW} {Q : PO → PW → Prop} {x1 : Int} (hs : Sh w) (hx1 : bd x1) (h : pC 193 [.ref 0, iv x1] w (kH (kI fun u2 w1 => Sh w1 ∧ ∀ w3 : PW, w3 = sL w1 180 0 (i2L u2) → Q (.inl (some (iv 0))) w3) (fun E w4 => (E = 1 ∧ Sh w4 ∧ Q (.inl (some (iv 1))) w4)))) : pC 194 [.ref 0, iv x1, .ref 180] w Q :=
  (pC_in (Nat.le_of_ble_eq_true rfl) rfl Q).mpr (v194_0 hs hx1 h)
/-! 196: PinBarrelLaw.setSpeed(LPinBarrel;I[J)I -/
theorem b196 : mB 196 = cL_setSpeed := rfl
theorem r196 : mR 196 = (some .int) := rfl
theorem d196_0 : decode cL_setSpeed 0 = .ok (.aload_n 2, 1) := by decide +kernel
theorem d196_1 : decode cL_setSpeed 1 = .ok (.iconst 0, 1) := by decide +kernel
theorem d196_2 : decode cL_setSpeed 2 = .ok (.aload_n 0, 1) := by decide +kernel
theorem d196_3 : decode cL_setSpeed 3 = .ok (.iload_n 1, 1) := by decide +kernel
theorem d196_4 : decode cL_setSpeed 4 = .ok (.invokevirtual 136, 3) := by decide +kernel
theorem d196_7 : decode cL_setSpeed 7 = .ok (.i2l, 1) := by decide +kernel
theorem d196_8 : decode cL_setSpeed 8 = .ok (.lastore, 1) := by decide +kernel
theorem d196_9 : decode cL_setSpeed 9 = .ok (.goto 6, 3) := by decide +kernel
theorem d196_13 : decode cL_setSpeed 13 = .ok (.iconst 1, 1) := by decide +kernel
theorem d196_14 : decode cL_setSpeed 14 = .ok (.ireturn, 1) := by decide +kernel
theorem d196_15 : decode cL_setSpeed 15 = .ok (.iconst 0, 1) := by decide +kernel
theorem d196_16 : decode cL_setSpeed 16 = .ok (.ireturn, 1) := by decide +kernel
theorem v196_0 {w : PW} {Q : PO → PW → Prop} {x1 : Int} (hs : Sh w) (hx1 : bd x1) (h : pC 195 [.ref 0, iv x1] w (kH (kI fun u2 w1 => Sh w1 ∧ ∀ w3 : PW, w3 = sL w1 180 0 (i2L u2) → Q (.inl (some (iv 0))) w3) (fun E w4 => (E = 1 ∧ Sh w4 ∧ Q (.inl (some (iv 1))) w4)))) : pX 196 0 [some (.ref 0), some (iv x1), some (.ref 180), none] [] w Q :=
  w_f b196 d196_0 rfl rfl rfl <| w_f b196 d196_1 rfl rfl rfl <| w_f b196 d196_2 rfl rfl rfl <| w_f b196 d196_3 rfl rfl rfl <| w_c b196 d196_4 rfl (pcl_v (n := 1) rfl rfl rfl (by decide +kernel) (sh_isOb hs (tlt 0 rfl) tbC_0) rfl rfl) rfl _ (hK_H (hK_I fun u2 w1 hbu2 hkw1 => w_f b196 d196_7 rfl rfl rfl <| w_las b196 d196_8 rfl hkw1.1 (tlt 180 rfl) tbC_180 (bdix (n := 1) ⟨by decide, by decide⟩ rfl) ⟨by decide, by decide⟩ <| w_j b196 d196_9 rfl (by decide +kernel) <| w_f b196 d196_15 rfl rfl rfl <| w_ri b196 d196_16 r196 (hkw1.2 _ rfl)) (fun E w4 => (fun q => by
  obtain ⟨rfl, hsw4, hkw4⟩ := q
  show (4 + 3 ≤ 12 ∧ 3 < 4) ∧ pX 196 13 [some (.ref 0), some (iv x1), some (.ref 180), none] [] w4 Q
  exact ⟨⟨by decide, by decide⟩, w_f b196 d196_13 rfl rfl rfl <| w_ri b196 d196_14 r196 hkw4⟩))) h
theorem e196 {w : PW} {Q : PO → PW → Prop} {x1 : Int} (hs : Sh w) (hx1 : bd x1) (h : pC 195 [.ref 0, iv x1] w (kH (kI fun u2 w1 => Sh w1 ∧ ∀ w3 : PW, w3 = sL w1 180 0 (i2L u2) → Q (.inl (some (iv 0))) w3) (fun E w4 => (E = 1 ∧ Sh w4 ∧ Q (.inl (some (iv 1))) w4)))) : pC 196 [.ref 0, iv x1, .ref 180] w Q :=
  (pC_in (Nat.le_of_ble_eq_true rfl) rfl Q).mpr (v196_0 hs hx1 h)
/-! 198: PinBarrelLaw.setGap(LPinBarrel;I[J)I -/
theorem b198 : mB 198 = cL_setGap := rfl
theorem r198 : mR 198 = (some .int) := rfl
theorem d198_0 : decode cL_setGap 0 = .ok (.aload_n 2, 1) := by decide +kernel
theorem d198_1 : decode cL_setGap 1 = .ok (.iconst 0, 1) := by decide +kernel
theorem d198_2 : decode cL_setGap 2 = .ok (.aload_n 0, 1) := by decide +kernel
theorem d198_3 : decode cL_setGap 3 = .ok (.iload_n 1, 1) := by decide +kernel
theorem d198_4 : decode cL_setGap 4 = .ok (.invokevirtual 139, 3) := by decide +kernel
theorem d198_7 : decode cL_setGap 7 = .ok (.i2l, 1) := by decide +kernel
theorem d198_8 : decode cL_setGap 8 = .ok (.lastore, 1) := by decide +kernel
theorem d198_9 : decode cL_setGap 9 = .ok (.goto 6, 3) := by decide +kernel
theorem d198_13 : decode cL_setGap 13 = .ok (.iconst 1, 1) := by decide +kernel
theorem d198_14 : decode cL_setGap 14 = .ok (.ireturn, 1) := by decide +kernel
theorem d198_15 : decode cL_setGap 15 = .ok (.iconst 0, 1) := by decide +kernel
theorem d198_16 : decode cL_setGap 16 = .ok (.ireturn, 1) := by decide +kernel
theorem v198_0 {w : PW} {Q : PO → PW → Prop} {x1 : Int} (hs : Sh w) (hx1 : bd x1) (h : pC 197 [.ref 0, iv x1] w (kH (kI fun u2 w1 => Sh w1 ∧ ∀ w3 : PW, w3 = sL w1 180 0 (i2L u2) → Q (.inl (some (iv 0))) w3) (fun E w4 => (E = 1 ∧ Sh w4 ∧ Q (.inl (some (iv 1))) w4)))) : pX 198 0 [some (.ref 0), some (iv x1), some (.ref 180), none] [] w Q :=
  w_f b198 d198_0 rfl rfl rfl <| w_f b198 d198_1 rfl rfl rfl <| w_f b198 d198_2 rfl rfl rfl <| w_f b198 d198_3 rfl rfl rfl <| w_c b198 d198_4 rfl (pcl_v (n := 1) rfl rfl rfl (by decide +kernel) (sh_isOb hs (tlt 0 rfl) tbC_0) rfl rfl) rfl _ (hK_H (hK_I fun u2 w1 hbu2 hkw1 => w_f b198 d198_7 rfl rfl rfl <| w_las b198 d198_8 rfl hkw1.1 (tlt 180 rfl) tbC_180 (bdix (n := 1) ⟨by decide, by decide⟩ rfl) ⟨by decide, by decide⟩ <| w_j b198 d198_9 rfl (by decide +kernel) <| w_f b198 d198_15 rfl rfl rfl <| w_ri b198 d198_16 r198 (hkw1.2 _ rfl)) (fun E w4 => (fun q => by
  obtain ⟨rfl, hsw4, hkw4⟩ := q
  show (4 + 3 ≤ 12 ∧ 3 < 4) ∧ pX 198 13 [some (.ref 0), some (iv x1), some (.ref 180), none] [] w4 Q
  exact ⟨⟨by decide, by decide⟩, w_f b198 d198_13 rfl rfl rfl <| w_ri b198 d198_14 r198 hkw4⟩))) h
theorem e198 {w : PW} {Q : PO → PW → Prop} {x1 : Int} (hs : Sh w) (hx1 : bd x1) (h : pC 197 [.ref 0, iv x1] w (kH (kI fun u2 w1 => Sh w1 ∧ ∀ w3 : PW, w3 = sL w1 180 0 (i2L u2) → Q (.inl (some (iv 0))) w3) (fun E w4 => (E = 1 ∧ Sh w4 ∧ Q (.inl (some (iv 1))) w4)))) : pC 198 [.ref 0, iv x1, .ref 180] w Q :=
  (pC_in (Nat.le_of_ble_eq_true rfl) rfl Q).mpr (v198_0 hs hx1 h)
/-! 200: PinBarrelLaw.shift(LPinBarrel;I[J)I -/
theorem b200 : mB 200 = cL_shift := rfl
theorem r200 : mR 200 = (some .int) := rfl
theorem d200_0 : decode cL_shift 0 = .ok (.aload_n 2, 1) := by decide +kernel
theorem d200_1 : decode cL_shift 1 = .ok (.iconst 0, 1) := by decide +kernel
theorem d200_2 : decode cL_shift 2 = .ok (.aload_n 0, 1) := by decide +kernel
theorem d200_3 : decode cL_shift 3 = .ok (.iload_n 1, 1) := by decide +kernel
theorem d200_4 : decode cL_shift 4 = .ok (.invokevirtual 142, 3) := by decide +kernel
theorem d200_7 : decode cL_shift 7 = .ok (.i2l, 1) := by decide +kernel
theorem d200_8 : decode cL_shift 8 = .ok (.lastore, 1) := by decide +kernel
theorem d200_9 : decode cL_shift 9 = .ok (.goto 6, 3) := by decide +kernel
theorem d200_13 : decode cL_shift 13 = .ok (.iconst 1, 1) := by decide +kernel
theorem d200_14 : decode cL_shift 14 = .ok (.ireturn, 1) := by decide +kernel
theorem d200_15 : decode cL_shift 15 = .ok (.iconst 0, 1) := by decide +kernel
theorem d200_16 : decode cL_shift 16 = .ok (.ireturn, 1) := by decide +kernel
theorem v200_0 {w : PW} {Q : PO → PW → Prop} {x1 : Int} (hs : Sh w) (hx1 : bd x1) (h : pC 199 [.ref 0, iv x1] w (kH (kI fun u2 w1 => Sh w1 ∧ ∀ w3 : PW, w3 = sL w1 180 0 (i2L u2) → Q (.inl (some (iv 0))) w3) (fun E w4 => (E = 1 ∧ Sh w4 ∧ Q (.inl (some (iv 1))) w4)))) : pX 200 0 [some (.ref 0), some (iv x1), some (.ref 180), none] [] w Q :=
  w_f b200 d200_0 rfl rfl rfl <| w_f b200 d200_1 rfl rfl rfl <| w_f b200 d200_2 rfl rfl rfl <| w_f b200 d200_3 rfl rfl rfl <| w_c b200 d200_4 rfl (pcl_v (n := 1) rfl rfl rfl (by decide +kernel) (sh_isOb hs (tlt 0 rfl) tbC_0) rfl rfl) rfl _ (hK_H (hK_I fun u2 w1 hbu2 hkw1 => w_f b200 d200_7 rfl rfl rfl <| w_las b200 d200_8 rfl hkw1.1 (tlt 180 rfl) tbC_180 (bdix (n := 1) ⟨by decide, by decide⟩ rfl) ⟨by decide, by decide⟩ <| w_j b200 d200_9 rfl (by decide +kernel) <| w_f b200 d200_15 rfl rfl rfl <| w_ri b200 d200_16 r200 (hkw1.2 _ rfl)) (fun E w4 => (fun q => by
  obtain ⟨rfl, hsw4, hkw4⟩ := q
  show (4 + 3 ≤ 12 ∧ 3 < 4) ∧ pX 200 13 [some (.ref 0), some (iv x1), some (.ref 180), none] [] w4 Q
  exact ⟨⟨by decide, by decide⟩, w_f b200 d200_13 rfl rfl rfl <| w_ri b200 d200_14 r200 hkw4⟩))) h
theorem e200 {w : PW} {Q : PO → PW → Prop} {x1 : Int} (hs : Sh w) (hx1 : bd x1) (h : pC 199 [.ref 0, iv x1] w (kH (kI fun u2 w1 => Sh w1 ∧ ∀ w3 : PW, w3 = sL w1 180 0 (i2L u2) → Q (.inl (some (iv 0))) w3) (fun E w4 => (E = 1 ∧ Sh w4 ∧ Q (.inl (some (iv 1))) w4)))) : pC 200 [.ref 0, iv x1, .ref 180] w Q :=
  (pC_in (Nat.le_of_ble_eq_true rfl) rfl Q).mpr (v200_0 hs hx1 h)
/-! 202: PinBarrelLaw.run(LPinBarrel;I[J)I -/
theorem b202 : mB 202 = cL_run := rfl
theorem r202 : mR 202 = (some .int) := rfl
theorem d202_0 : decode cL_run 0 = .ok (.aload_n 2, 1) := by decide +kernel
theorem d202_1 : decode cL_run 1 = .ok (.iconst 0, 1) := by decide +kernel
theorem d202_2 : decode cL_run 2 = .ok (.aload_n 0, 1) := by decide +kernel
theorem d202_3 : decode cL_run 3 = .ok (.iload_n 1, 1) := by decide +kernel
theorem d202_4 : decode cL_run 4 = .ok (.invokevirtual 145, 3) := by decide +kernel
theorem d202_7 : decode cL_run 7 = .ok (.i2l, 1) := by decide +kernel
theorem d202_8 : decode cL_run 8 = .ok (.lastore, 1) := by decide +kernel
theorem d202_9 : decode cL_run 9 = .ok (.goto 6, 3) := by decide +kernel
theorem d202_13 : decode cL_run 13 = .ok (.iconst 1, 1) := by decide +kernel
theorem d202_14 : decode cL_run 14 = .ok (.ireturn, 1) := by decide +kernel
theorem d202_15 : decode cL_run 15 = .ok (.iconst 0, 1) := by decide +kernel
theorem d202_16 : decode cL_run 16 = .ok (.ireturn, 1) := by decide +kernel
theorem v202_0 {w : PW} {Q : PO → PW → Prop} {x1 : Int} (hs : Sh w) (hx1 : bd x1) (h : pC 201 [.ref 0, iv x1] w (kH (kI fun u2 w1 => Sh w1 ∧ ∀ w3 : PW, w3 = sL w1 180 0 (i2L u2) → Q (.inl (some (iv 0))) w3) (fun E w4 => (E = 1 ∧ Sh w4 ∧ Q (.inl (some (iv 1))) w4)))) : pX 202 0 [some (.ref 0), some (iv x1), some (.ref 180), none] [] w Q :=
  w_f b202 d202_0 rfl rfl rfl <| w_f b202 d202_1 rfl rfl rfl <| w_f b202 d202_2 rfl rfl rfl <| w_f b202 d202_3 rfl rfl rfl <| w_c b202 d202_4 rfl (pcl_v (n := 1) rfl rfl rfl (by decide +kernel) (sh_isOb hs (tlt 0 rfl) tbC_0) rfl rfl) rfl _ (hK_H (hK_I fun u2 w1 hbu2 hkw1 => w_f b202 d202_7 rfl rfl rfl <| w_las b202 d202_8 rfl hkw1.1 (tlt 180 rfl) tbC_180 (bdix (n := 1) ⟨by decide, by decide⟩ rfl) ⟨by decide, by decide⟩ <| w_j b202 d202_9 rfl (by decide +kernel) <| w_f b202 d202_15 rfl rfl rfl <| w_ri b202 d202_16 r202 (hkw1.2 _ rfl)) (fun E w4 => (fun q => by
  obtain ⟨rfl, hsw4, hkw4⟩ := q
  show (4 + 3 ≤ 12 ∧ 3 < 4) ∧ pX 202 13 [some (.ref 0), some (iv x1), some (.ref 180), none] [] w4 Q
  exact ⟨⟨by decide, by decide⟩, w_f b202 d202_13 rfl rfl rfl <| w_ri b202 d202_14 r202 hkw4⟩))) h
theorem e202 {w : PW} {Q : PO → PW → Prop} {x1 : Int} (hs : Sh w) (hx1 : bd x1) (h : pC 201 [.ref 0, iv x1] w (kH (kI fun u2 w1 => Sh w1 ∧ ∀ w3 : PW, w3 = sL w1 180 0 (i2L u2) → Q (.inl (some (iv 0))) w3) (fun E w4 => (E = 1 ∧ Sh w4 ∧ Q (.inl (some (iv 1))) w4)))) : pC 202 [.ref 0, iv x1, .ref 180] w Q :=
  (pC_in (Nat.le_of_ble_eq_true rfl) rfl Q).mpr (v202_0 hs hx1 h)
/-! 208: PinBarrelLaw.writeTooth(LPinBarrel;II[J)I -/
theorem b208 : mB 208 = cL_writeTooth := rfl
theorem r208 : mR 208 = (some .int) := rfl
theorem d208_0 : decode cL_writeTooth 0 = .ok (.aload_n 3, 1) := by decide +kernel
theorem d208_1 : decode cL_writeTooth 1 = .ok (.iconst 0, 1) := by decide +kernel
theorem d208_2 : decode cL_writeTooth 2 = .ok (.aload_n 0, 1) := by decide +kernel
theorem d208_3 : decode cL_writeTooth 3 = .ok (.iload_n 1, 1) := by decide +kernel
theorem d208_4 : decode cL_writeTooth 4 = .ok (.iload_n 2, 1) := by decide +kernel
theorem d208_5 : decode cL_writeTooth 5 = .ok (.invokevirtual 152, 3) := by decide +kernel
theorem d208_8 : decode cL_writeTooth 8 = .ok (.i2l, 1) := by decide +kernel
theorem d208_9 : decode cL_writeTooth 9 = .ok (.lastore, 1) := by decide +kernel
theorem d208_10 : decode cL_writeTooth 10 = .ok (.goto 11, 3) := by decide +kernel
theorem d208_15 : decode cL_writeTooth 15 = .ok (.iconst 1, 1) := by decide +kernel
theorem d208_16 : decode cL_writeTooth 16 = .ok (.ireturn, 1) := by decide +kernel
theorem d208_19 : decode cL_writeTooth 19 = .ok (.iconst 2, 1) := by decide +kernel
theorem d208_20 : decode cL_writeTooth 20 = .ok (.ireturn, 1) := by decide +kernel
theorem d208_21 : decode cL_writeTooth 21 = .ok (.iconst 0, 1) := by decide +kernel
theorem d208_22 : decode cL_writeTooth 22 = .ok (.ireturn, 1) := by decide +kernel
theorem v208_0 {w : PW} {Q : PO → PW → Prop} {x1 : Int} {x2 : Int} (hs : Sh w) (hx1 : bd x1) (hx2 : bd x2) (h : pC 207 [.ref 0, iv x1, iv x2] w (kH (kI fun u2 w1 => Sh w1 ∧ ∀ w3 : PW, w3 = sL w1 180 0 (i2L u2) → Q (.inl (some (iv 0))) w3) (fun E w4 => (E = 1 ∧ Sh w4 ∧ Q (.inl (some (iv 1))) w4) ∨ (E = 2 ∧ Sh w4 ∧ Q (.inl (some (iv 2))) w4)))) : pX 208 0 [some (.ref 0), some (iv x1), some (iv x2), some (.ref 180), none] [] w Q :=
  w_f b208 d208_0 rfl rfl rfl <| w_f b208 d208_1 rfl rfl rfl <| w_f b208 d208_2 rfl rfl rfl <| w_f b208 d208_3 rfl rfl rfl <| w_f b208 d208_4 rfl rfl rfl <| w_c b208 d208_5 rfl (pcl_v (n := 2) rfl rfl rfl (by decide +kernel) (sh_isOb hs (tlt 0 rfl) tbC_0) rfl rfl) rfl _ (hK_H (hK_I fun u2 w1 hbu2 hkw1 => w_f b208 d208_8 rfl rfl rfl <| w_las b208 d208_9 rfl hkw1.1 (tlt 180 rfl) tbC_180 (bdix (n := 1) ⟨by decide, by decide⟩ rfl) ⟨by decide, by decide⟩ <| w_j b208 d208_10 rfl (by decide +kernel) <| w_f b208 d208_21 rfl rfl rfl <| w_ri b208 d208_22 r208 (hkw1.2 _ rfl)) (fun E w4 hq => hq.elim (fun q => by
  obtain ⟨rfl, hsw4, hkw4⟩ := q
  show (5 + 3 ≤ 13 ∧ 4 < 5) ∧ pX 208 15 [some (.ref 0), some (iv x1), some (iv x2), some (.ref 180), none] [] w4 Q
  exact ⟨⟨by decide, by decide⟩, w_f b208 d208_15 rfl rfl rfl <| w_ri b208 d208_16 r208 hkw4⟩) (fun q => by
  obtain ⟨rfl, hsw4, hkw4⟩ := q
  show (5 + 3 ≤ 17 ∧ 4 < 5) ∧ pX 208 19 [some (.ref 0), some (iv x1), some (iv x2), some (.ref 180), none] [] w4 Q
  exact ⟨⟨by decide, by decide⟩, w_f b208 d208_19 rfl rfl rfl <| w_ri b208 d208_20 r208 hkw4⟩))) h
theorem e208 {w : PW} {Q : PO → PW → Prop} {x1 : Int} {x2 : Int} (hs : Sh w) (hx1 : bd x1) (hx2 : bd x2) (h : pC 207 [.ref 0, iv x1, iv x2] w (kH (kI fun u2 w1 => Sh w1 ∧ ∀ w3 : PW, w3 = sL w1 180 0 (i2L u2) → Q (.inl (some (iv 0))) w3) (fun E w4 => (E = 1 ∧ Sh w4 ∧ Q (.inl (some (iv 1))) w4) ∨ (E = 2 ∧ Sh w4 ∧ Q (.inl (some (iv 2))) w4)))) : pC 208 [.ref 0, iv x1, iv x2, .ref 180] w Q :=
  (pC_in (Nat.le_of_ble_eq_true rfl) rfl Q).mpr (v208_0 hs hx1 hx2 h)
/-! 210: PinBarrelLaw.writeStep(LPinBarrel;II[J)I -/
theorem b210 : mB 210 = cL_writeStep := rfl
theorem r210 : mR 210 = (some .int) := rfl
theorem d210_0 : decode cL_writeStep 0 = .ok (.aload_n 3, 1) := by decide +kernel
theorem d210_1 : decode cL_writeStep 1 = .ok (.iconst 0, 1) := by decide +kernel
theorem d210_2 : decode cL_writeStep 2 = .ok (.aload_n 0, 1) := by decide +kernel
theorem d210_3 : decode cL_writeStep 3 = .ok (.iload_n 1, 1) := by decide +kernel
theorem d210_4 : decode cL_writeStep 4 = .ok (.iload_n 2, 1) := by decide +kernel
theorem d210_5 : decode cL_writeStep 5 = .ok (.invokevirtual 155, 3) := by decide +kernel
theorem d210_8 : decode cL_writeStep 8 = .ok (.i2l, 1) := by decide +kernel
theorem d210_9 : decode cL_writeStep 9 = .ok (.lastore, 1) := by decide +kernel
theorem d210_10 : decode cL_writeStep 10 = .ok (.goto 7, 3) := by decide +kernel
theorem d210_15 : decode cL_writeStep 15 = .ok (.iconst 1, 1) := by decide +kernel
theorem d210_16 : decode cL_writeStep 16 = .ok (.ireturn, 1) := by decide +kernel
theorem d210_17 : decode cL_writeStep 17 = .ok (.iconst 0, 1) := by decide +kernel
theorem d210_18 : decode cL_writeStep 18 = .ok (.ireturn, 1) := by decide +kernel
theorem v210_0 {w : PW} {Q : PO → PW → Prop} {x1 : Int} {x2 : Int} (hs : Sh w) (hx1 : bd x1) (hx2 : bd x2) (h : pC 209 [.ref 0, iv x1, iv x2] w (kH (kI fun u2 w1 => Sh w1 ∧ ∀ w3 : PW, w3 = sL w1 180 0 (i2L u2) → Q (.inl (some (iv 0))) w3) (fun E w4 => (E = 1 ∧ Sh w4 ∧ Q (.inl (some (iv 1))) w4)))) : pX 210 0 [some (.ref 0), some (iv x1), some (iv x2), some (.ref 180), none] [] w Q :=
  w_f b210 d210_0 rfl rfl rfl <| w_f b210 d210_1 rfl rfl rfl <| w_f b210 d210_2 rfl rfl rfl <| w_f b210 d210_3 rfl rfl rfl <| w_f b210 d210_4 rfl rfl rfl <| w_c b210 d210_5 rfl (pcl_v (n := 2) rfl rfl rfl (by decide +kernel) (sh_isOb hs (tlt 0 rfl) tbC_0) rfl rfl) rfl _ (hK_H (hK_I fun u2 w1 hbu2 hkw1 => w_f b210 d210_8 rfl rfl rfl <| w_las b210 d210_9 rfl hkw1.1 (tlt 180 rfl) tbC_180 (bdix (n := 1) ⟨by decide, by decide⟩ rfl) ⟨by decide, by decide⟩ <| w_j b210 d210_10 rfl (by decide +kernel) <| w_f b210 d210_17 rfl rfl rfl <| w_ri b210 d210_18 r210 (hkw1.2 _ rfl)) (fun E w4 => (fun q => by
  obtain ⟨rfl, hsw4, hkw4⟩ := q
  show (5 + 3 ≤ 13 ∧ 4 < 5) ∧ pX 210 15 [some (.ref 0), some (iv x1), some (iv x2), some (.ref 180), none] [] w4 Q
  exact ⟨⟨by decide, by decide⟩, w_f b210 d210_15 rfl rfl rfl <| w_ri b210 d210_16 r210 hkw4⟩))) h
theorem e210 {w : PW} {Q : PO → PW → Prop} {x1 : Int} {x2 : Int} (hs : Sh w) (hx1 : bd x1) (hx2 : bd x2) (h : pC 209 [.ref 0, iv x1, iv x2] w (kH (kI fun u2 w1 => Sh w1 ∧ ∀ w3 : PW, w3 = sL w1 180 0 (i2L u2) → Q (.inl (some (iv 0))) w3) (fun E w4 => (E = 1 ∧ Sh w4 ∧ Q (.inl (some (iv 1))) w4)))) : pC 210 [.ref 0, iv x1, iv x2, .ref 180] w Q :=
  (pC_in (Nat.le_of_ble_eq_true rfl) rfl Q).mpr (v210_0 hs hx1 hx2 h)
/-! 212: PinBarrelLaw.saveSnapshot(LPinBarrel;I[J)I -/
theorem b212 : mB 212 = cL_saveSnapshot := rfl
theorem r212 : mR 212 = (some .int) := rfl
theorem d212_0 : decode cL_saveSnapshot 0 = .ok (.aload_n 2, 1) := by decide +kernel
theorem d212_1 : decode cL_saveSnapshot 1 = .ok (.iconst 0, 1) := by decide +kernel
theorem d212_2 : decode cL_saveSnapshot 2 = .ok (.aload_n 0, 1) := by decide +kernel
theorem d212_3 : decode cL_saveSnapshot 3 = .ok (.iload_n 1, 1) := by decide +kernel
theorem d212_4 : decode cL_saveSnapshot 4 = .ok (.invokevirtual 158, 3) := by decide +kernel
theorem d212_7 : decode cL_saveSnapshot 7 = .ok (.i2l, 1) := by decide +kernel
theorem d212_8 : decode cL_saveSnapshot 8 = .ok (.lastore, 1) := by decide +kernel
theorem d212_9 : decode cL_saveSnapshot 9 = .ok (.goto 6, 3) := by decide +kernel
theorem d212_13 : decode cL_saveSnapshot 13 = .ok (.iconst 1, 1) := by decide +kernel
theorem d212_14 : decode cL_saveSnapshot 14 = .ok (.ireturn, 1) := by decide +kernel
theorem d212_15 : decode cL_saveSnapshot 15 = .ok (.iconst 0, 1) := by decide +kernel
theorem d212_16 : decode cL_saveSnapshot 16 = .ok (.ireturn, 1) := by decide +kernel
theorem v212_0 {w : PW} {Q : PO → PW → Prop} {x1 : Int} (hs : Sh w) (hx1 : bd x1) (h : pC 211 [.ref 0, iv x1] w (kH (kI fun u2 w1 => Sh w1 ∧ ∀ w3 : PW, w3 = sL w1 180 0 (i2L u2) → Q (.inl (some (iv 0))) w3) (fun E w4 => (E = 1 ∧ Sh w4 ∧ Q (.inl (some (iv 1))) w4)))) : pX 212 0 [some (.ref 0), some (iv x1), some (.ref 180), none] [] w Q :=
  w_f b212 d212_0 rfl rfl rfl <| w_f b212 d212_1 rfl rfl rfl <| w_f b212 d212_2 rfl rfl rfl <| w_f b212 d212_3 rfl rfl rfl <| w_c b212 d212_4 rfl (pcl_v (n := 1) rfl rfl rfl (by decide +kernel) (sh_isOb hs (tlt 0 rfl) tbC_0) rfl rfl) rfl _ (hK_H (hK_I fun u2 w1 hbu2 hkw1 => w_f b212 d212_7 rfl rfl rfl <| w_las b212 d212_8 rfl hkw1.1 (tlt 180 rfl) tbC_180 (bdix (n := 1) ⟨by decide, by decide⟩ rfl) ⟨by decide, by decide⟩ <| w_j b212 d212_9 rfl (by decide +kernel) <| w_f b212 d212_15 rfl rfl rfl <| w_ri b212 d212_16 r212 (hkw1.2 _ rfl)) (fun E w4 => (fun q => by
  obtain ⟨rfl, hsw4, hkw4⟩ := q
  show (4 + 3 ≤ 12 ∧ 3 < 4) ∧ pX 212 13 [some (.ref 0), some (iv x1), some (.ref 180), none] [] w4 Q
  exact ⟨⟨by decide, by decide⟩, w_f b212 d212_13 rfl rfl rfl <| w_ri b212 d212_14 r212 hkw4⟩))) h
theorem e212 {w : PW} {Q : PO → PW → Prop} {x1 : Int} (hs : Sh w) (hx1 : bd x1) (h : pC 211 [.ref 0, iv x1] w (kH (kI fun u2 w1 => Sh w1 ∧ ∀ w3 : PW, w3 = sL w1 180 0 (i2L u2) → Q (.inl (some (iv 0))) w3) (fun E w4 => (E = 1 ∧ Sh w4 ∧ Q (.inl (some (iv 1))) w4)))) : pC 212 [.ref 0, iv x1, .ref 180] w Q :=
  (pC_in (Nat.le_of_ble_eq_true rfl) rfl Q).mpr (v212_0 hs hx1 h)
/-! 214: PinBarrelLaw.restoreSnapshot(LPinBarrel;I[J)I -/
theorem b214 : mB 214 = cL_restoreSnapshot := rfl
theorem r214 : mR 214 = (some .int) := rfl
theorem d214_0 : decode cL_restoreSnapshot 0 = .ok (.aload_n 2, 1) := by decide +kernel
theorem d214_1 : decode cL_restoreSnapshot 1 = .ok (.iconst 0, 1) := by decide +kernel
theorem d214_2 : decode cL_restoreSnapshot 2 = .ok (.aload_n 0, 1) := by decide +kernel
theorem d214_3 : decode cL_restoreSnapshot 3 = .ok (.iload_n 1, 1) := by decide +kernel
theorem d214_4 : decode cL_restoreSnapshot 4 = .ok (.invokevirtual 161, 3) := by decide +kernel
theorem d214_7 : decode cL_restoreSnapshot 7 = .ok (.i2l, 1) := by decide +kernel
theorem d214_8 : decode cL_restoreSnapshot 8 = .ok (.lastore, 1) := by decide +kernel
theorem d214_9 : decode cL_restoreSnapshot 9 = .ok (.goto 6, 3) := by decide +kernel
theorem d214_13 : decode cL_restoreSnapshot 13 = .ok (.iconst 1, 1) := by decide +kernel
theorem d214_14 : decode cL_restoreSnapshot 14 = .ok (.ireturn, 1) := by decide +kernel
theorem d214_15 : decode cL_restoreSnapshot 15 = .ok (.iconst 0, 1) := by decide +kernel
theorem d214_16 : decode cL_restoreSnapshot 16 = .ok (.ireturn, 1) := by decide +kernel
theorem v214_0 {w : PW} {Q : PO → PW → Prop} {x1 : Int} (hs : Sh w) (hx1 : bd x1) (h : pC 213 [.ref 0, iv x1] w (kH (kI fun u2 w1 => Sh w1 ∧ ∀ w3 : PW, w3 = sL w1 180 0 (i2L u2) → Q (.inl (some (iv 0))) w3) (fun E w4 => (E = 1 ∧ Sh w4 ∧ Q (.inl (some (iv 1))) w4)))) : pX 214 0 [some (.ref 0), some (iv x1), some (.ref 180), none] [] w Q :=
  w_f b214 d214_0 rfl rfl rfl <| w_f b214 d214_1 rfl rfl rfl <| w_f b214 d214_2 rfl rfl rfl <| w_f b214 d214_3 rfl rfl rfl <| w_c b214 d214_4 rfl (pcl_v (n := 1) rfl rfl rfl (by decide +kernel) (sh_isOb hs (tlt 0 rfl) tbC_0) rfl rfl) rfl _ (hK_H (hK_I fun u2 w1 hbu2 hkw1 => w_f b214 d214_7 rfl rfl rfl <| w_las b214 d214_8 rfl hkw1.1 (tlt 180 rfl) tbC_180 (bdix (n := 1) ⟨by decide, by decide⟩ rfl) ⟨by decide, by decide⟩ <| w_j b214 d214_9 rfl (by decide +kernel) <| w_f b214 d214_15 rfl rfl rfl <| w_ri b214 d214_16 r214 (hkw1.2 _ rfl)) (fun E w4 => (fun q => by
  obtain ⟨rfl, hsw4, hkw4⟩ := q
  show (4 + 3 ≤ 12 ∧ 3 < 4) ∧ pX 214 13 [some (.ref 0), some (iv x1), some (.ref 180), none] [] w4 Q
  exact ⟨⟨by decide, by decide⟩, w_f b214 d214_13 rfl rfl rfl <| w_ri b214 d214_14 r214 hkw4⟩))) h
theorem e214 {w : PW} {Q : PO → PW → Prop} {x1 : Int} (hs : Sh w) (hx1 : bd x1) (h : pC 213 [.ref 0, iv x1] w (kH (kI fun u2 w1 => Sh w1 ∧ ∀ w3 : PW, w3 = sL w1 180 0 (i2L u2) → Q (.inl (some (iv 0))) w3) (fun E w4 => (E = 1 ∧ Sh w4 ∧ Q (.inl (some (iv 1))) w4)))) : pC 214 [.ref 0, iv x1, .ref 180] w Q :=
  (pC_in (Nat.le_of_ble_eq_true rfl) rfl Q).mpr (v214_0 hs hx1 h)
section LWR
variable {w w2 : PW} {m : Row} {H : Nat → Row} {n : Nat} {l L : List Nat} {S : Nat → Row} {K : Nat → Int} {a b : Int} {x1 x2 x3 x4 : Int} {r : PO}
theorem ckQ (hs : Sh w) (hC : CP w m H n l L S K a b) : CK w r (fun w3 => CP w3 m H n l L S K a b) r w := ⟨rfl, hs, fC.rf, fun w3 hk => hC.cells (fun c hc => hk c (by omega))⟩
theorem ckC (hC : CP w m H n l L S K a b) (F : CF w w2) : CK w r (fun w3 => CP w3 m H n l L S K a b) r w2 := ⟨rfl, F.1, F.kc, fun w3 hk => (hC.cf F).cells (fun c hc => hk c (by omega))⟩
theorem ckA {o : Option Row} (hC : CP w m H n l L S K a b) (F : AO w H n m o w2) : CK w r (fun w3 => CP w3 (aM m o) (aH H n m o) (aN n o) l L S K a b) r w2 := ⟨rfl, F.1, (hC.ao F).2, fun w3 hk => (hC.ao F).1.cells (fun c hc => hk c (by omega))⟩
theorem ckT {o : Option (List Nat)} (hs : Sh w) (hC : CP w m H n l L S K a b) (F : TO w o w2) : CK w r (fun w3 => CP w3 m H n l (tN L o) S K a b) r w2 := ⟨rfl, (hC.to hs F).1, (hC.to hs F).2.2, fun w3 hk => (hC.to hs F).2.1.cells (fun c hc => hk c (by omega))⟩
theorem i65 : is1 (sp65 m n x1) := is1_if is1_I
theorem x66 (hs : Sh w) (hC : CP w m H n l L S K a b) (hx1 : bd x1) : pC 66 [.ref 0, iv x1, .ref 180] w (WQ w (sp65 m n x1) (fun w3 => CP w3 m H n l L S K a b)) := e66 hs hx1 (wT1 (c65 hs hC.1 hC.2.1.1 hx1 (ckQ hs hC)) i65)
theorem i69 : is12 (sp69 m x1 x2) := is12_2 (is12_1 is12_I)
theorem sq69_e : sq69 m x1 x2 = swp (sp69 m x1 x2) := by
  unfold sq69 sp69 spT spR
  repeat' split
  all_goals rfl
theorem x70 (hs : Sh w) (hC : CP w m H n l L S K a b) (hx1 : bd x1) (hx2 : bd x2) : pC 70 [.ref 0, iv x1, iv x2, .ref 180] w (WQ w (swp (sp69 m x1 x2)) (fun w3 => CP w3 m H n l L S K a b)) := e70 hs hx1 hx2 (wT2 (c69 hs hC.1 hx1 hx2 (ckQ hs hC)) i69)
theorem i74 : is12 (sp74 m x1 x2) := is12_2 (is12_1 is12_I)
theorem sq74_e : sq74 m x1 x2 = swp (sp74 m x1 x2) := by
  unfold sq74 sp74 spN spR
  repeat' split
  all_goals rfl
theorem x75 (hs : Sh w) (hC : CP w m H n l L S K a b) (hx1 : bd x1) (hx2 : bd x2) : pC 75 [.ref 0, iv x1, iv x2, .ref 180] w (WQ w (swp (sp74 m x1 x2)) (fun w3 => CP w3 m H n l L S K a b)) := e75 hs hx1 hx2 (wT2 (c74 hs hC.1 hx1 hx2 (ckQ hs hC)) i74)
theorem i79 : is12 (sp79 m x1 x2 x3) := is12_1 (is12_1 (is12_2 is12_I))
theorem x80 (hs : Sh w) (hC : CP w m H n l L S K a b) (hx1 : bd x1) (hx2 : bd x2) (hx3 : bd x3) : pC 80 [.ref 0, iv x1, iv x2, iv x3, .ref 180] w (WZ w (sp79 m x1 x2 x3) (fun w3 => CP w3 m H n l L S K a b)) := e80 hs hx1 hx2 hx3 (wZ3 (c79 hs hC.1 hx1 hx2 hx3 (ckQ hs hC)) i79)
theorem i82 : is12 (sp82 m x1 x2 x3) := is12_1 (is12_2 is12_I)
theorem x83 (hs : Sh w) (hC : CP w m H n l L S K a b) (hx1 : bd x1) (hx2 : bd x2) (hx3 : bd x3) : pC 83 [.ref 0, iv x1, iv x2, iv x3, .ref 180] w (WQ w (sp82 m x1 x2 x3) (fun w3 => CP w3 m H n l L S K a b)) := e83 hs hx1 hx2 hx3 (wT3 (c82 hs hC.1 hx1 hx2 hx3 (ckQ hs hC)) i82)
theorem i85 : is1 (sp85 m x1 x2) := is1_if (is1_if is1_I)
theorem x86 (hs : Sh w) (hC : CP w m H n l L S K a b) (hx1 : bd x1) (hx2 : bd x2) : pC 86 [.ref 0, iv x1, iv x2, .ref 180] w (WQ w (sp85 m x1 x2) (fun w3 => CP w3 m H n l L S K a b)) := e86 hs hx1 hx2 (wT1 (c85 hs hC.1 hx1 hx2 (ckQ hs hC)) i85)
theorem i88 : is1 (sp88 m x1) := is1_if is1_I
theorem x89 (hs : Sh w) (hC : CP w m H n l L S K a b) (hx1 : bd x1) : pC 89 [.ref 0, iv x1, .ref 180] w (WQ w (sp88 m x1) (fun w3 => CP w3 m H n l L S K a b)) := e89 hs hx1 (wT1 (c88 hs hC.1 hx1 (ckQ hs hC)) i88)
theorem i93 : is1 (sp93 m x1) := is1_if is1_I
theorem x94 (hs : Sh w) (hC : CP w m H n l L S K a b) (hx1 : bd x1) : pC 94 [.ref 0, iv x1, .ref 180] w (WQ w (sp93 m x1) (fun w3 => CP w3 m H n l L S K a b)) := e94 hs hx1 (wT1 (c93 hs hC.1 hx1 (ckQ hs hC)) i93)
theorem i97 : is1 (sp97 m x1 x2 x3) := is1_if (is1_if is1_I)
theorem x98 (hs : Sh w) (hC : CP w m H n l L S K a b) (hx1 : bd x1) (hx2 : bd x2) (hx3 : bd x3) : pC 98 [.ref 0, iv x1, iv x2, iv x3, .ref 180] w (WQ w (sp97 m x1 x2 x3) (fun w3 => CP w3 m H n l L S K a b)) := e98 hs hx1 hx2 hx3 (wT1 (c97 hs hC.1 hx1 hx2 hx3 (ckQ hs hC)) i97)
theorem i104 : is1 (sp104 m x1 x2) := is1_if is1_I
theorem x105 (hs : Sh w) (hC : CP w m H n l L S K a b) (hx1 : bd x1) (hx2 : bd x2) : pC 105 [.ref 0, iv x1, iv x2, .ref 180] w (WQ w (sp104 m x1 x2) (fun w3 => CP w3 m H n l L S K a b)) := e105 hs hx1 hx2 (wT1 (c104 hs hC.1 hx1 hx2 (ckQ hs hC)) i104)
theorem i108 : is1 (sp108 m x1) := is1_if is1_I
theorem x109 (hs : Sh w) (hC : CP w m H n l L S K a b) (hx1 : bd x1) : pC 109 [.ref 0, iv x1, .ref 180] w (WQ w (sp108 m x1) (fun w3 => CP w3 m H n l L S K a b)) := e109 hs hx1 (wT1 (c108 hs hC.1 hx1 (ckQ hs hC)) i108)
theorem i110 : is1 (sp110 m x1) := is1_if is1_I
theorem x111 (hs : Sh w) (hC : CP w m H n l L S K a b) (hx1 : bd x1) : pC 111 [.ref 0, iv x1, .ref 180] w (WQ w (sp110 m x1) (fun w3 => CP w3 m H n l L S K a b)) := e111 hs hx1 (wT1 (c110 hs hC.1 hx1 (ckQ hs hC)) i110)
theorem i113 : is1 (sp113 m x1) := is1_if is1_I
theorem x114 (hs : Sh w) (hC : CP w m H n l L S K a b) (hx1 : bd x1) : pC 114 [.ref 0, iv x1, .ref 180] w (WZ w (sp113 m x1) (fun w3 => CP w3 m H n l L S K a b)) := e114 hs hx1 (wZ1 (c113 hs hC.1 hx1 (ckQ hs hC)) i113)
theorem i125 : is1 (sp125 m x1) := is1_if is1_I
theorem x126 (hs : Sh w) (hC : CP w m H n l L S K a b) (hx1 : bd x1) : pC 126 [.ref 0, iv x1, .ref 180] w (WQ w (sp125 m x1) (fun w3 => CP w3 m H n l L S K a b)) := e126 hs hx1 (wT1 (c125 hs hC.1 hx1 (fun w2 F => ckC hC F)) i125)
theorem i127 : is1 (sp127 m x1) := is1_if is1_I
theorem x128 (hs : Sh w) (hC : CP w m H n l L S K a b) (hx1 : bd x1) : pC 128 [.ref 0, iv x1, .ref 180] w (WQ w (sp127 m x1) (fun w3 => CP w3 m H n l L S K a b)) := e128 hs hx1 (wT1 (c127 hs hC.1 hx1 (fun w2 F => ckC hC F)) i127)
theorem i131 : is2 (sp131 m x1) := is2_if is2_I
theorem sq131_e : sq131 m x1 = swp (sp131 m x1) := by
  unfold sq131 sp131 spN
  repeat' split
  all_goals rfl
theorem x132 (hs : Sh w) (hC : CP w m H n l L S K a b) (hx1 : bd x1) : pC 132 [.ref 0, iv x1, .ref 180] w (WQ w (swp (sp131 m x1)) (fun w3 => CP w3 m H n l L S K a b)) := e132 hs hx1 (wT4 (c131 hs hC.1 hx1 (fun w2 F => ckC hC F)) i131)
theorem i134 : is1 (sp134 m x1) := is1_if is1_I
theorem x135 (hs : Sh w) (hC : CP w m H n l L S K a b) (hx1 : bd x1) : pC 135 [.ref 0, iv x1, .ref 180] w (WQ w (sp134 m x1) (fun w3 => CP w3 m H n l L S K a b)) := e135 hs hx1 (wT1 (c134 hs hC.1 hx1 (fun w2 F => ckC hC F)) i134)
theorem i136 : is1 (sp136 m x1) := is1_if is1_I
theorem x137 (hs : Sh w) (hC : CP w m H n l L S K a b) (hx1 : bd x1) : pC 137 [.ref 0, iv x1, .ref 180] w (WQ w (sp136 m x1) (fun w3 => CP w3 m H n l L S K a b)) := e137 hs hx1 (wT1 (c136 hs hC.1 hx1 (fun w2 F => ckC hC F)) i136)
theorem i138 : is1 (sp138 m x1) := is1_if is1_I
theorem x139 (hs : Sh w) (hC : CP w m H n l L S K a b) (hx1 : bd x1) : pC 139 [.ref 0, iv x1, .ref 180] w (WQ w (sp138 m x1) (fun w3 => CP w3 m H n l L S K a b)) := e139 hs hx1 (wT1 (c138 hs hC.1 hx1 (fun w2 F => ckC hC F)) i138)
theorem i141 : is1 (sp141 m x1) := is1_if is1_I
theorem x142 (hs : Sh w) (hC : CP w m H n l L S K a b) (hx1 : bd x1) : pC 142 [.ref 0, iv x1, .ref 180] w (WQ w (sp141 m x1) (fun w3 => CP w3 m H n l L S K a b)) := e142 hs hx1 (wT1 (c141 hs hC.1 hx1 (fun w2 F => ckC hC F)) i141)
theorem i144 : is1 (sp144 m x1) := is1_if is1_I
theorem x145 (hs : Sh w) (hC : CP w m H n l L S K a b) (hx1 : bd x1) : pC 145 [.ref 0, iv x1, .ref 180] w (WQ w (sp144 m x1) (fun w3 => CP w3 m H n l L S K a b)) := e145 hs hx1 (wT1 (c144 hs hC.1 hx1 (fun w2 F => ckC hC F)) i144)
theorem i147 : is1 (sp147 m x1 x2) := is1_if (is1_if is1_I)
theorem x148 (hs : Sh w) (hC : CP w m H n l L S K a b) (hx1 : bd x1) (hx2 : bd x2) : pC 148 [.ref 0, iv x1, iv x2, .ref 180] w (WQ w (sp147 m x1 x2) (fun w3 => CP w3 m H n l L S K a b)) := e148 hs hx1 hx2 (wT1 (c147 hs hC.1 hx1 hx2 (ckQ hs hC)) i147)
theorem i149 : is1 (sp149 m x1) := is1_if is1_I
theorem x150 (hs : Sh w) (hC : CP w m H n l L S K a b) (hx1 : bd x1) : pC 150 [.ref 0, iv x1, .ref 180] w (WQ w (sp149 m x1) (fun w3 => CP w3 m H n l L S K a b)) := e150 hs hx1 (wT1 (c149 hs hC.1 hx1 (ckQ hs hC)) i149)
theorem i152 : is1 (sp152 m x1 x2 x3) := is1_if (is1_if (is1_if is1_I))
theorem x153 (hs : Sh w) (hC : CP w m H n l L S K a b) (hx1 : bd x1) (hx2 : bd x2) (hx3 : bd x3) : pC 153 [.ref 0, iv x1, iv x2, iv x3, .ref 180] w (WQ w (sp152 m x1 x2 x3) (fun w3 => CP w3 m H n l L S K a b)) := e153 hs hx1 hx2 hx3 (wT1 (c152 hs hC.1 hx1 hx2 hx3 (ckQ hs hC)) i152)
theorem i155 : is1 (sp155 m x1) := is1_if is1_I
theorem x156 (hs : Sh w) (hC : CP w m H n l L S K a b) (hx1 : bd x1) : pC 156 [.ref 0, iv x1, .ref 180] w (WQ w (sp155 m x1) (fun w3 => CP w3 m H n l L S K a b)) := e156 hs hx1 (wT1 (c155 hs hC.1 hx1 (ckQ hs hC)) i155)
theorem i158 : is1 (sp158 m x1 x2) := is1_if is1_I
theorem x159 (hs : Sh w) (hC : CP w m H n l L S K a b) (hx1 : bd x1) (hx2 : bd x2) : pC 159 [.ref 0, iv x1, iv x2, .ref 180] w (WQ w (sp158 m x1 x2) (fun w3 => CP w3 m H n l L S K a b)) := e159 hs hx1 hx2 (wT1 (c158 hs hC.1 hx1 hx2 (ckQ hs hC)) i158)
theorem i160 : is1 (sp160 m x1) := is1_if is1_I
theorem x161 (hs : Sh w) (hC : CP w m H n l L S K a b) (hF : RFin m) (hx1 : bd x1) : pC 161 [.ref 0, iv x1, .ref 180] w (WQ w (sp160 m x1) (fun w3 => CP w3 m H n l L S K a b)) := e161 hs hx1 (wT1 (c160 hs hC.1 hF hx1 (fun w2 F => ckC hC F)) i160)
theorem i162 : is1 (sp162 m x1) := is1_if is1_I
theorem x163 (hs : Sh w) (hC : CP w m H n l L S K a b) (hF : RFin m) (hx1 : bd x1) : pC 163 [.ref 0, iv x1, .ref 180] w (WQ w (sp162 m x1) (fun w3 => CP w3 m H n l L S K a b)) := e163 hs hx1 (wT1 (c162 hs hC.1 hF hx1 (fun w2 F => ckC hC F)) i162)
theorem i165 : is1 (sa165 m x1 x2 x3).1 := is1_a (is1_a (is1_a (is1_q is1_I is1_I)))
theorem x166 (hs : Sh w) (hC : CP w m H n l L S K a b) (hx1 : bd x1) (hx2 : bd x2) (hx3 : bd x3) : pC 166 [.ref 0, iv x1, iv x2, iv x3, .ref 180] w (WQ w (sa165 m x1 x2 x3).1 (fun w3 => CP w3 (aM m (sa165 m x1 x2 x3).2) (aH H n m (sa165 m x1 x2 x3).2) (aN n (sa165 m x1 x2 x3).2) l L S K a b)) := e166 hs hx1 hx2 hx3 (wT1 (c165 hs hC.1 hC.2.1 hx1 hx2 hx3 (fun w2 F => ckA hC F)) i165)
theorem i168 : is2 (sa168 m x1).1 := is2_a is2_I
theorem sm168_e : sm168 m x1 = (swp (sa168 m x1).1, (sa168 m x1).2) := by
  unfold sm168 sa168 aP
  repeat' split
  all_goals rfl
theorem x169 (hs : Sh w) (hC : CP w m H n l L S K a b) (hx1 : bd x1) : pC 169 [.ref 0, iv x1, .ref 180] w (WQ w (swp (sa168 m x1).1) (fun w3 => CP w3 (aM m (sa168 m x1).2) (aH H n m (sa168 m x1).2) (aN n (sa168 m x1).2) l L S K a b)) := e169 hs hx1 (wT4 (c168 hs hC.1 hC.2.1 hx1 (fun w2 F => ckA hC F)) i168)
theorem i170 : is1 (sa170 m x1 x2).1 := is1_a (is1_a (is1_q is1_I is1_I))
theorem x171 (hs : Sh w) (hC : CP w m H n l L S K a b) (hx1 : bd x1) (hx2 : bd x2) : pC 171 [.ref 0, iv x1, iv x2, .ref 180] w (WQ w (sa170 m x1 x2).1 (fun w3 => CP w3 (aM m (sa170 m x1 x2).2) (aH H n m (sa170 m x1 x2).2) (aN n (sa170 m x1 x2).2) l L S K a b)) := e171 hs hx1 hx2 (wT1 (c170 hs hC.1 hC.2.1 hx1 hx2 (fun w2 F => ckA hC F)) i170)
theorem i172 : is12 (sa172 m x1 x2).1 := is12_a2 (is12_a1 is12_I)
theorem sm172_e : sm172 m x1 x2 = (swp (sa172 m x1 x2).1, (sa172 m x1 x2).2) := by
  unfold sm172 sa172 aP
  repeat' split
  all_goals rfl
theorem x173 (hs : Sh w) (hC : CP w m H n l L S K a b) (hx1 : bd x1) (hx2 : bd x2) : pC 173 [.ref 0, iv x1, iv x2, .ref 180] w (WQ w (swp (sa172 m x1 x2).1) (fun w3 => CP w3 (aM m (sa172 m x1 x2).2) (aH H n m (sa172 m x1 x2).2) (aN n (sa172 m x1 x2).2) l L S K a b)) := e173 hs hx1 hx2 (wT2 (c172 hs hC.1 hC.2.1 hx1 hx2 (fun w2 F => ckA hC F)) i172)
theorem i174 : is12 (sa174 m x1 x2).1 := is12_a2 (is12_a1 is12_I)
theorem sm174_e : sm174 m x1 x2 = (swp (sa174 m x1 x2).1, (sa174 m x1 x2).2) := by
  unfold sm174 sa174 aP
  repeat' split
  all_goals rfl
theorem x175 (hs : Sh w) (hC : CP w m H n l L S K a b) (hx1 : bd x1) (hx2 : bd x2) : pC 175 [.ref 0, iv x1, iv x2, .ref 180] w (WQ w (swp (sa174 m x1 x2).1) (fun w3 => CP w3 (aM m (sa174 m x1 x2).2) (aH H n m (sa174 m x1 x2).2) (aN n (sa174 m x1 x2).2) l L S K a b)) := e175 hs hx1 hx2 (wT2 (c174 hs hC.1 hC.2.1 hx1 hx2 (fun w2 F => ckA hC F)) i174)
theorem i176 : is12 (sa176 m x1 x2 x3 x4).1 := is12_a1 (is12_a1 (is12_a2 is12_I))
theorem x177 (hs : Sh w) (hC : CP w m H n l L S K a b) (hx1 : bd x1) (hx2 : bd x2) (hx3 : bd x3) (hx4 : bd x4) : pC 177 [.ref 0, iv x1, iv x2, iv x3, iv x4, .ref 180] w (WZ w (sa176 m x1 x2 x3 x4).1 (fun w3 => CP w3 (aM m (sa176 m x1 x2 x3 x4).2) (aH H n m (sa176 m x1 x2 x3 x4).2) (aN n (sa176 m x1 x2 x3 x4).2) l L S K a b)) := e177 hs hx1 hx2 hx3 hx4 (wZ3 (c176 hs hC.1 hC.2.1 hx1 hx2 hx3 hx4 (fun w2 F => ckA hC F)) i176)
theorem i178 : is1 (sa178 m x1).1 := is1_a is1_I
theorem x179 (hs : Sh w) (hC : CP w m H n l L S K a b) (hx1 : bd x1) : pC 179 [.ref 0, iv x1, .ref 180] w (WQ w (sa178 m x1).1 (fun w3 => CP w3 (aM m (sa178 m x1).2) (aH H n m (sa178 m x1).2) (aN n (sa178 m x1).2) l L S K a b)) := e179 hs hx1 (wT1 (c178 hs hC.1 hC.2.1 hx1 (fun w2 F => ckA hC F)) i178)
theorem i181 : is1 (sa181 m x1).1 := is1_a (is1_q (is1_q is1_I is1_I) is1_I)
theorem x182 (hs : Sh w) (hC : CP w m H n l L S K a b) (hx1 : bd x1) : pC 182 [.ref 0, iv x1, .ref 180] w (WQ w (sa181 m x1).1 (fun w3 => CP w3 (aM m (sa181 m x1).2) (aH H n m (sa181 m x1).2) (aN n (sa181 m x1).2) l L S K a b)) := e182 hs hx1 (wT1 (c181 hs hC.1 hC.2.1 hx1 (fun w2 F => ckA hC F)) i181)
theorem i185 : is1 (sa185 m x1 x2).1 := is1_a (is1_a (is1_q is1_I is1_I))
theorem x186 (hs : Sh w) (hC : CP w m H n l L S K a b) (hx1 : bd x1) (hx2 : bd x2) : pC 186 [.ref 0, iv x1, iv x2, .ref 180] w (WQ w (sa185 m x1 x2).1 (fun w3 => CP w3 (aM m (sa185 m x1 x2).2) (aH H n m (sa185 m x1 x2).2) (aN n (sa185 m x1 x2).2) l L S K a b)) := e186 hs hx1 hx2 (wT1 (c185 hs hC.1 hC.2.1 hx1 hx2 (fun w2 F => ckA hC F)) i185)
theorem i188 : is1 (sa188 m x1 x2).1 := is1_a (is1_a is1_I)
theorem x189 (hs : Sh w) (hC : CP w m H n l L S K a b) (hx1 : bd x1) (hx2 : bd x2) : pC 189 [.ref 0, iv x1, iv x2, .ref 180] w (WQ w (sa188 m x1 x2).1 (fun w3 => CP w3 (aM m (sa188 m x1 x2).2) (aH H n m (sa188 m x1 x2).2) (aN n (sa188 m x1 x2).2) l L S K a b)) := e189 hs hx1 hx2 (wT1 (c188 hs hC.1 hC.2.1 hx1 hx2 (fun w2 F => ckA hC F)) i188)
theorem i193 : is1 (sa193 m x1).1 := is1_a is1_I
theorem x194 (hs : Sh w) (hC : CP w m H n l L S K a b) (hx1 : bd x1) : pC 194 [.ref 0, iv x1, .ref 180] w (WQ w (sa193 m x1).1 (fun w3 => CP w3 (aM m (sa193 m x1).2) (aH H n m (sa193 m x1).2) (aN n (sa193 m x1).2) l L S K a b)) := e194 hs hx1 (wT1 (c193 hs hC.1 hC.2.1 hx1 (fun w2 F => ckA hC F)) i193)
theorem i195 : is1 (sa195 m x1).1 := is1_a is1_I
theorem x196 (hs : Sh w) (hC : CP w m H n l L S K a b) (hx1 : bd x1) : pC 196 [.ref 0, iv x1, .ref 180] w (WQ w (sa195 m x1).1 (fun w3 => CP w3 (aM m (sa195 m x1).2) (aH H n m (sa195 m x1).2) (aN n (sa195 m x1).2) l L S K a b)) := e196 hs hx1 (wT1 (c195 hs hC.1 hC.2.1 hx1 (fun w2 F => ckA hC F)) i195)
theorem i197 : is1 (sa197 m x1).1 := is1_a is1_I
theorem x198 (hs : Sh w) (hC : CP w m H n l L S K a b) (hx1 : bd x1) : pC 198 [.ref 0, iv x1, .ref 180] w (WQ w (sa197 m x1).1 (fun w3 => CP w3 (aM m (sa197 m x1).2) (aH H n m (sa197 m x1).2) (aN n (sa197 m x1).2) l L S K a b)) := e198 hs hx1 (wT1 (c197 hs hC.1 hC.2.1 hx1 (fun w2 F => ckA hC F)) i197)
theorem i199 : is1 (sa199 m x1).1 := is1_a is1_I
theorem x200 (hs : Sh w) (hC : CP w m H n l L S K a b) (hx1 : bd x1) : pC 200 [.ref 0, iv x1, .ref 180] w (WQ w (sa199 m x1).1 (fun w3 => CP w3 (aM m (sa199 m x1).2) (aH H n m (sa199 m x1).2) (aN n (sa199 m x1).2) l L S K a b)) := e200 hs hx1 (wT1 (c199 hs hC.1 hC.2.1 hx1 (fun w2 F => ckA hC F)) i199)
theorem i201 : is1 (sa201 m x1).1 := is1_a (is1_q is1_I is1_I)
theorem x202 (hs : Sh w) (hC : CP w m H n l L S K a b) (hF : RFin m) (hx1 : bd x1) : pC 202 [.ref 0, iv x1, .ref 180] w (WQ w (sa201 m x1).1 (fun w3 => CP w3 (aM m (sa201 m x1).2) (aH H n m (sa201 m x1).2) (aN n (sa201 m x1).2) l L S K a b)) := e202 hs hx1 (wT1 (c201 hs hC.1 hF.1 hC.2.1 hx1 (fun w2 F => ckA hC F)) i201)
theorem i207 : is12 (st207 m x1 x2).1 := is12_a1 (is12_a2 is12_I)
theorem x208 (hs : Sh w) (hC : CP w m H n l L S K a b) (hx1 : bd x1) (hx2 : bd x2) : pC 208 [.ref 0, iv x1, iv x2, .ref 180] w (WQ w (st207 m x1 x2).1 (fun w3 => CP w3 m H n l (tN L (st207 m x1 x2).2) S K a b)) := e208 hs hx1 hx2 (wT3 (c207 hs hC.1 hx1 hx2 (fun w2 F => ckT hs hC F)) i207)
theorem i209 : is1 (st209 m x1 x2).1 := is1_a (is1_a is1_I)
theorem x210 (hs : Sh w) (hC : CP w m H n l L S K a b) (hx1 : bd x1) (hx2 : bd x2) : pC 210 [.ref 0, iv x1, iv x2, .ref 180] w (WQ w (st209 m x1 x2).1 (fun w3 => CP w3 m H n l (tN L (st209 m x1 x2).2) S K a b)) := e210 hs hx1 hx2 (wT1 (c209 hs hC.1 hx1 hx2 (fun w2 F => ckT hs hC F)) i209)
end LWR
