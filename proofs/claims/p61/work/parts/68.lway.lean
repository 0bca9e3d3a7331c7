/-! THE LAW's METHODS: way, isNear -/
/-! 219: PinBarrelLaw.way(LPinBarrel;II)I -/
theorem b219 : mB 219 = cL_way := rfl
theorem r219 : mR 219 = (some .int) := rfl
theorem d219_0 : decode cL_way 0 = .ok (.iload_n 1, 1) := by decide +kernel
theorem d219_1 : decode cL_way 1 = .ok (.iload_n 2, 1) := by decide +kernel
theorem d219_2 : decode cL_way 2 = .ok (.if_icmp .ne 11, 3) := by decide +kernel
theorem d219_5 : decode cL_way 5 = .ok (.aload_n 0, 1) := by decide +kernel
theorem d219_6 : decode cL_way 6 = .ok (.iconst 0, 1) := by decide +kernel
theorem d219_7 : decode cL_way 7 = .ok (.invokevirtual 79, 3) := by decide +kernel
theorem d219_10 : decode cL_way 10 = .ok (.goto 18, 3) := by decide +kernel
theorem d219_13 : decode cL_way 13 = .ok (.iload_n 2, 1) := by decide +kernel
theorem d219_14 : decode cL_way 14 = .ok (.iload_n 1, 1) := by decide +kernel
theorem d219_15 : decode cL_way 15 = .ok (.isub, 1) := by decide +kernel
theorem d219_16 : decode cL_way 16 = .ok (.aload_n 0, 1) := by decide +kernel
theorem d219_17 : decode cL_way 17 = .ok (.iconst 0, 1) := by decide +kernel
theorem d219_18 : decode cL_way 18 = .ok (.invokevirtual 79, 3) := by decide +kernel
theorem d219_21 : decode cL_way 21 = .ok (.iadd, 1) := by decide +kernel
theorem d219_22 : decode cL_way 22 = .ok (.aload_n 0, 1) := by decide +kernel
theorem d219_23 : decode cL_way 23 = .ok (.iconst 0, 1) := by decide +kernel
theorem d219_24 : decode cL_way 24 = .ok (.invokevirtual 79, 3) := by decide +kernel
theorem d219_27 : decode cL_way 27 = .ok (.irem, 1) := by decide +kernel
theorem d219_28 : decode cL_way 28 = .ok (.ireturn, 1) := by decide +kernel
theorem v219_0 {w : PW} {Q : PO → PW → Prop} {m : Row} {H : Nat → Row} {n : Nat} {k0 : Option Row} {sn : Nat} {sf : Nat → Int32} {x1 : Int} {x2 : Int} (hl : LW w m H n k0 sn sf) (hx1 : bd x1) (hx2 : bd x2) (h : (x1 ≠ x2 → ∀ w2 : PW, LW w2 m H n k0 sn sf → bd (m 0) → ∀ w3 : PW, LW w3 m H n k0 sn sf → bd (m 0) → (bd ((x2 - x1) + (m 0))) ∧ (0 < (m 0) ∧ (m 0) < 2147483648) ∧ Q (.inl (some (iv (((x2 - x1) + (m 0)).tmod (m 0))))) w3) ∧ (x1 = x2 → ∀ w4 : PW, LW w4 m H n k0 sn sf → bd (m 0) → Q (.inl (some (iv (m 0)))) w4)) : pX 219 0 [some (.ref 0), some (iv x1), some (iv x2)] [] w Q :=
  w_f b219 d219_0 rfl rfl rfl <| w_f b219 d219_1 rfl rfl rfl <| w_icne b219 d219_2 rfl rfl (by decide +kernel) hx1 hx2 (fun c1 => w_f b219 d219_13 rfl rfl rfl <| w_f b219 d219_14 rfl rfl rfl <| w_f b219 d219_15 rfl (pf_isub x2 x1) rfl <| w_f b219 d219_16 rfl rfl rfl <| w_f b219 d219_17 rfl rfl rfl <| w_cc b219 d219_18 rfl (pcl_v (n := 1) rfl rfl rfl (by decide +kernel) (sh_isOb hl.sh (tlt 0 rfl) tbC_0) rfl rfl) rfl <| q65_0 hl ⟨by decide, by decide⟩ (fun w2 lw2 bw2 => w_f b219 d219_21 rfl (pf_iadd (x2 - x1) (m 0)) rfl <| w_f b219 d219_22 rfl rfl rfl <| w_f b219 d219_23 rfl rfl rfl <| w_cc b219 d219_24 rfl (pcl_v (n := 1) rfl rfl rfl (by decide +kernel) (sh_isOb lw2.sh (tlt 0 rfl) tbC_0) rfl rfl) rfl <| q65_0 lw2 ⟨by decide, by decide⟩ (fun w3 lw3 bw3 => w_f b219 d219_27 rfl (pf_irem (((h.1 c1) w2 lw2 bw2) w3 lw3 bw3).1 (((h.1 c1) w2 lw2 bw2) w3 lw3 bw3).2.1) rfl <| w_ri b219 d219_28 r219 (((h.1 c1) w2 lw2 bw2) w3 lw3 bw3).2.2))) (fun c1 => w_f b219 d219_5 rfl rfl rfl <| w_f b219 d219_6 rfl rfl rfl <| w_cc b219 d219_7 rfl (pcl_v (n := 1) rfl rfl rfl (by decide +kernel) (sh_isOb hl.sh (tlt 0 rfl) tbC_0) rfl rfl) rfl <| q65_0 hl ⟨by decide, by decide⟩ (fun w4 lw4 bw4 => w_j b219 d219_10 rfl (by decide +kernel) <| w_ri b219 d219_28 r219 ((h.2 c1) w4 lw4 bw4)))
theorem e219 {w : PW} {Q : PO → PW → Prop} {m : Row} {H : Nat → Row} {n : Nat} {k0 : Option Row} {sn : Nat} {sf : Nat → Int32} {x1 : Int} {x2 : Int} (hl : LW w m H n k0 sn sf) (hx1 : bd x1) (hx2 : bd x2) (h : (x1 ≠ x2 → ∀ w2 : PW, LW w2 m H n k0 sn sf → bd (m 0) → ∀ w3 : PW, LW w3 m H n k0 sn sf → bd (m 0) → (bd ((x2 - x1) + (m 0))) ∧ (0 < (m 0) ∧ (m 0) < 2147483648) ∧ Q (.inl (some (iv (((x2 - x1) + (m 0)).tmod (m 0))))) w3) ∧ (x1 = x2 → ∀ w4 : PW, LW w4 m H n k0 sn sf → bd (m 0) → Q (.inl (some (iv (m 0)))) w4)) : pC 219 [.ref 0, iv x1, iv x2] w Q :=
  (pC_in (Nat.le_of_ble_eq_true rfl) rfl Q).mpr (v219_0 hl hx1 hx2 h)
