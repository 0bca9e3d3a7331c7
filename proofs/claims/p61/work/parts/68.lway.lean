/-! THE LAW's METHODS: way, isNear -/
/-! 219: PinBarrelLaw.way(LPinBarrel;II)I -/
theorem b219 : mB 219 = cL_way := rfl
theorem r219 : mR 219 = (some .int) := rfl
theorem d219_0 : decode cL_way 0 = .ok (.iload_n 1, 1) := by decide +kernel
theorem d219_1 : decode cL_way 1 = .ok (.iload_n 2, 1) := by decide +kernel
theorem d219_2 : decode cL_way 2 = .ok (.if_icmp .ne 11, 3) := by decide +kernel
theorem d219_5 : decode cL_way 5 = .ok (.aload_n 0, 1) := by decide +kernel
theorem d219_6 : decode cL_way 6 = .ok (.iconst 0, 1) := by decide +kernel
theorem d219_7 : decode cL_way 7 = .ok (.invokevirtual 79, 3) := by decide +kernel
theorem d219_10 : decode cL_way 10 = .ok (.goto 18, 3) := by decide +kernel
theorem d219_13 : decode cL_way 13 = .ok (.iload_n 2, 1) := by decide +kernel
theorem d219_14 : decode cL_way 14 = .ok (.iload_n 1, 1) := by decide +kernel
theorem d219_15 : decode cL_way 15 = .ok (.isub, 1) := by decide +kernel
theorem d219_16 : decode cL_way 16 = .ok (.aload_n 0, 1) := by decide +kernel
theorem d219_17 : decode cL_way 17 = .ok (.iconst 0, 1) := by decide +kernel
theorem d219_18 : decode cL_way 18 = .ok (.invokevirtual 79, 3) := by decide +kernel
theorem d219_21 : decode cL_way 21 = .ok (.iadd, 1) := by decide +kernel
theorem d219_22 : decode cL_way 22 = .ok (.aload_n 0, 1) := by decide +kernel
theorem d219_23 : decode cL_way 23 = .ok (.iconst 0, 1) := by decide +kernel
theorem d219_24 : decode cL_way 24 = .ok (.invokevirtual 79, 3) := by decide +kernel
theorem d219_27 : decode cL_way 27 = .ok (.irem, 1) := by decide +kernel
theorem d219_28 : decode cL_way 28 = .ok (.ireturn, 1) := by decide +kernel
theorem v219_0 {w : PW} {Q : PO → PW → Prop} {m : Row} {H : Nat → Row} {n : Nat} {k0 : Option Row} {sn : Nat} {sf : Nat → Int32} {x1 : Int} {x2 : Int} (hl : LW w m H n k0 sn sf) (hx1 : bd x1) (hx2 : bd x2) (h : (x1 ≠ x2 → ∀ w2 : PW, LW w2 m H n k0 sn sf → bd (m 0) → ∀ w3 : PW, LW w3 m H n k0 sn sf → bd (m 0) → (bd ((x2 - x1) + (m 0))) ∧ (0 < (m 0) ∧ (m 0) < 2147483648) ∧ Q (.inl (some (iv (((x2 - x1) + (m 0)).tmod (m 0))))) w3) ∧ (x1 = x2 → ∀ w4 : PW, LW w4 m H n k0 sn sf → bd (m 0) → Q (.inl (some (iv (m 0)))) w4)) : pX 219 0 [some (.ref 0), some (iv x1), some (iv x2)] [] w Q :=
  w_f b219 d219_0 rfl rfl rfl <| w_f b219 d219_1 rfl rfl rfl <| w_icne b219 d219_2 rfl rfl (by decide +kernel) hx1 hx2 (fun c1 => w_f b219 d219_13 rfl rfl rfl <| w_f b219 d219_14 rfl rfl rfl <| w_f b219 d219_15 rfl (pf_isub x2 x1) rfl <| w_f b219 d219_16 rfl rfl rfl <| w_f b219 d219_17 rfl rfl rfl <| w_cc b219 d219_18 rfl (pcl_v (n := 1) rfl rfl rfl (by decide +kernel) (sh_isOb hl.sh (tlt 0 rfl) tbC_0) rfl rfl) rfl <| q65_0 hl ⟨by decide, by decide⟩ (fun w2 lw2 bw2 => w_f b219 d219_21 rfl (pf_iadd (x2 - x1) (m 0)) rfl <| w_f b219 d219_22 rfl rfl rfl <| w_f b219 d219_23 rfl rfl rfl <| w_cc b219 d219_24 rfl (pcl_v (n := 1) rfl rfl rfl (by decide +kernel) (sh_isOb lw2.sh (tlt 0 rfl) tbC_0) rfl rfl) rfl <| q65_0 lw2 ⟨by decide, by decide⟩ (fun w3 lw3 bw3 => w_f b219 d219_27 rfl (pf_irem (((h.1 c1) w2 lw2 bw2) w3 lw3 bw3).1 (((h.1 c1) w2 lw2 bw2) w3 lw3 bw3).2.1) rfl <| w_ri b219 d219_28 r219 (((h.1 c1) w2 lw2 bw2) w3 lw3 bw3).2.2))) (fun c1 => w_f b219 d219_5 rfl rfl rfl <| w_f b219 d219_6 rfl rfl rfl <| w_cc b219 d219_7 rfl (pcl_v (n := 1) rfl rfl rfl (by decide +kernel) (sh_isOb hl.sh (tlt 0 rfl) tbC_0) rfl rfl) rfl <| q65_0 hl ⟨by decide, by decide⟩ (fun w4 lw4 bw4 => w_j b219 d219_10 rfl (by decide +kernel) <| w_ri b219 d219_28 r219 ((h.2 c1) w4 lw4 bw4)))
theorem e219 {w : PW} {Q : PO → PW → Prop} {m : Row} {H : Nat → Row} {n : Nat} {k0 : Option Row} {sn : Nat} {sf : Nat → Int32} {x1 : Int} {x2 : Int} (hl : LW w m H n k0 sn sf) (hx1 : bd x1) (hx2 : bd x2) (h : (x1 ≠ x2 → ∀ w2 : PW, LW w2 m H n k0 sn sf → bd (m 0) → ∀ w3 : PW, LW w3 m H n k0 sn sf → bd (m 0) → (bd ((x2 - x1) + (m 0))) ∧ (0 < (m 0) ∧ (m 0) < 2147483648) ∧ Q (.inl (some (iv (((x2 - x1) + (m 0)).tmod (m 0))))) w3) ∧ (x1 = x2 → ∀ w4 : PW, LW w4 m H n k0 sn sf → bd (m 0) → Q (.inl (some (iv (m 0)))) w4)) : pC 219 [.ref 0, iv x1, iv x2] w Q :=
  (pC_in (Nat.le_of_ble_eq_true rfl) rfl Q).mpr (v219_0 hl hx1 hx2 h)
theorem wayI_bd {S a b : Int} (ha : 0 ≤ a ∧ a < S) (hb : 0 ≤ b ∧ b < S) : 1 ≤ wayI S a b ∧ wayI S a b ≤ S := by
  unfold wayI
  split <;> omega
theorem q219 {w : PW} {Q : PO → PW → Prop} {m : Row} {H : Nat → Row} {n : Nat} {k0 : Option Row} {sn : Nat} {sf : Nat → Int32} {x1 x2 : Int} (hl : LW w m H n k0 sn sf) (hx1 : bd x1) (hx2 : bd x2) (h1 : 0 ≤ x1 ∧ x1 < m 0) (h2 : 0 ≤ x2 ∧ x2 < m 0) (h : qh m H n k0 sn sf Q (wayI (m 0) x1 x2)) : pC 219 [.ref 0, iv x1, iv x2] w Q := by
  have h0 := hl.ok.s
  have hb := wayI_bd h1 h2
  have hbd : bd (wayI (m 0) x1 x2) := ⟨by omega, by omega⟩
  refine e219 hl hx1 hx2 ⟨fun q w2 l2 b2 w3 l3 b3 => ⟨⟨by omega, by omega⟩, ⟨by omega, by omega⟩, ?_⟩, fun q w4 l4 b4 => ?_⟩
  · have := h w3 l3 hbd
    have e : ((x2 - x1) + m 0).tmod (m 0) = wayI (m 0) x1 x2 := by
      rw [Int.tmod_eq_emod_of_nonneg (by omega)]
      unfold wayI
      by_cases q2 : x2 ≤ x1
      · rw [if_pos q2, Int.emod_eq_of_lt (by omega) (by omega)]
      · rw [if_neg q2, Int.add_emod_right, Int.emod_eq_of_lt (by omega) (by omega)]
    rw [e]
    exact this
  · have := h w4 l4 hbd
    unfold wayI at this
    rw [if_pos (by omega), q, Int.sub_self, Int.zero_add] at this
    exact this
/-! 220: PinBarrelLaw.isNear(LPinBarrel;II)Z -/
theorem b220 : mB 220 = cL_isNear := rfl
theorem r220 : mR 220 = (some .boolean) := rfl
theorem d220_0 : decode cL_isNear 0 = .ok (.iload_n 1, 1) := by decide +kernel
theorem d220_1 : decode cL_isNear 1 = .ok (.iload_n 2, 1) := by decide +kernel
theorem d220_2 : decode cL_isNear 2 = .ok (.if_icmp .ne 19, 3) := by decide +kernel
theorem d220_5 : decode cL_isNear 5 = .ok (.aload_n 0, 1) := by decide +kernel
theorem d220_6 : decode cL_isNear 6 = .ok (.iconst 2, 1) := by decide +kernel
theorem d220_7 : decode cL_isNear 7 = .ok (.invokevirtual 79, 3) := by decide +kernel
theorem d220_10 : decode cL_isNear 10 = .ok (.ifCond .le 7, 3) := by decide +kernel
theorem d220_13 : decode cL_isNear 13 = .ok (.iconst 1, 1) := by decide +kernel
theorem d220_14 : decode cL_isNear 14 = .ok (.goto 40, 3) := by decide +kernel
theorem d220_17 : decode cL_isNear 17 = .ok (.iconst 0, 1) := by decide +kernel
theorem d220_18 : decode cL_isNear 18 = .ok (.goto 36, 3) := by decide +kernel
theorem d220_21 : decode cL_isNear 21 = .ok (.aload_n 0, 1) := by decide +kernel
theorem d220_22 : decode cL_isNear 22 = .ok (.iload_n 1, 1) := by decide +kernel
theorem d220_23 : decode cL_isNear 23 = .ok (.iload_n 2, 1) := by decide +kernel
theorem d220_24 : decode cL_isNear 24 = .ok (.invokestatic 150, 3) := by decide +kernel
theorem d220_27 : decode cL_isNear 27 = .ok (.aload_n 0, 1) := by decide +kernel
theorem d220_28 : decode cL_isNear 28 = .ok (.iconst 2, 1) := by decide +kernel
theorem d220_29 : decode cL_isNear 29 = .ok (.invokevirtual 79, 3) := by decide +kernel
theorem d220_32 : decode cL_isNear 32 = .ok (.if_icmp .lt 17, 3) := by decide +kernel
theorem d220_35 : decode cL_isNear 35 = .ok (.aload_n 0, 1) := by decide +kernel
theorem d220_36 : decode cL_isNear 36 = .ok (.iload_n 2, 1) := by decide +kernel
theorem d220_37 : decode cL_isNear 37 = .ok (.iload_n 1, 1) := by decide +kernel
theorem d220_38 : decode cL_isNear 38 = .ok (.invokestatic 150, 3) := by decide +kernel
theorem d220_41 : decode cL_isNear 41 = .ok (.aload_n 0, 1) := by decide +kernel
theorem d220_42 : decode cL_isNear 42 = .ok (.iconst 2, 1) := by decide +kernel
theorem d220_43 : decode cL_isNear 43 = .ok (.invokevirtual 79, 3) := by decide +kernel
theorem d220_46 : decode cL_isNear 46 = .ok (.if_icmp .ge 7, 3) := by decide +kernel
theorem d220_49 : decode cL_isNear 49 = .ok (.iconst 1, 1) := by decide +kernel
theorem d220_50 : decode cL_isNear 50 = .ok (.goto 4, 3) := by decide +kernel
theorem d220_53 : decode cL_isNear 53 = .ok (.iconst 0, 1) := by decide +kernel
theorem d220_54 : decode cL_isNear 54 = .ok (.ireturn, 1) := by decide +kernel
theorem v220_0 {w : PW} {Q : PO → PW → Prop} {m : Row} {H : Nat → Row} {n : Nat} {k0 : Option Row} {sn : Nat} {sf : Nat → Int32} {x1 : Int} {x2 : Int} (hl : LW w m H n k0 sn sf) (hx1 : bd x1) (hx2 : bd x2) (h : (x1 ≠ x2 → (0 ≤ x1 ∧ x1 < m 0) ∧ (0 ≤ x2 ∧ x2 < m 0) ∧ ∀ w2 : PW, LW w2 m H n k0 sn sf → bd (wayI (m 0) x1 x2) → ∀ w3 : PW, LW w3 m H n k0 sn sf → bd (m 2) → ((wayI (m 0) x1 x2) < (m 2) → Q (.inl (some (iv 1))) w3) ∧ ((m 2) ≤ (wayI (m 0) x1 x2) → (0 ≤ x2 ∧ x2 < m 0) ∧ (0 ≤ x1 ∧ x1 < m 0) ∧ ∀ w5 : PW, LW w5 m H n k0 sn sf → bd (wayI (m 0) x2 x1) → ∀ w6 : PW, LW w6 m H n k0 sn sf → bd (m 2) → ((m 2) ≤ (wayI (m 0) x2 x1) → Q (.inl (some (iv 0))) w6) ∧ ((wayI (m 0) x2 x1) < (m 2) → Q (.inl (some (iv 1))) w6))) ∧ (x1 = x2 → ∀ w8 : PW, LW w8 m H n k0 sn sf → bd (m 2) → ((m 2) ≤ 0 → Q (.inl (some (iv 0))) w8) ∧ (0 < (m 2) → Q (.inl (some (iv 1))) w8))) : pX 220 0 [some (.ref 0), some (iv x1), some (iv x2)] [] w Q :=
  w_f b220 d220_0 rfl rfl rfl <| w_f b220 d220_1 rfl rfl rfl <| w_icne b220 d220_2 rfl rfl (by decide +kernel) hx1 hx2 (fun c1 => w_f b220 d220_21 rfl rfl rfl <| w_f b220 d220_22 rfl rfl rfl <| w_f b220 d220_23 rfl rfl rfl <| w_cc b220 d220_24 rfl (pcl_s1 (n := 3) rfl rfl rfl (by decide +kernel) rfl rfl) rfl <| q219 hl hx1 hx2 (h.1 c1).1 (h.1 c1).2.1 (fun w2 lw2 bw2 => w_f b220 d220_27 rfl rfl rfl <| w_f b220 d220_28 rfl rfl rfl <| w_cc b220 d220_29 rfl (pcl_v (n := 1) rfl rfl rfl (by decide +kernel) (sh_isOb lw2.sh (tlt 0 rfl) tbC_0) rfl rfl) rfl <| q65_2 lw2 ⟨by decide, by decide⟩ (fun w3 lw3 bw3 => w_iclt b220 d220_32 rfl rfl (by decide +kernel) bw2 bw3 (fun c4 => w_f b220 d220_49 rfl rfl rfl <| w_j b220 d220_50 rfl (by decide +kernel) <| w_rz b220 d220_54 r220 (by decide) ((((h.1 c1).2.2 w2 lw2 bw2) w3 lw3 bw3).1 c4)) (fun c4 => w_f b220 d220_35 rfl rfl rfl <| w_f b220 d220_36 rfl rfl rfl <| w_f b220 d220_37 rfl rfl rfl <| w_cc b220 d220_38 rfl (pcl_s1 (n := 3) rfl rfl rfl (by decide +kernel) rfl rfl) rfl <| q219 lw3 hx2 hx1 ((((h.1 c1).2.2 w2 lw2 bw2) w3 lw3 bw3).2 c4).1 ((((h.1 c1).2.2 w2 lw2 bw2) w3 lw3 bw3).2 c4).2.1 (fun w5 lw5 bw5 => w_f b220 d220_41 rfl rfl rfl <| w_f b220 d220_42 rfl rfl rfl <| w_cc b220 d220_43 rfl (pcl_v (n := 1) rfl rfl rfl (by decide +kernel) (sh_isOb lw5.sh (tlt 0 rfl) tbC_0) rfl rfl) rfl <| q65_2 lw5 ⟨by decide, by decide⟩ (fun w6 lw6 bw6 => w_icge b220 d220_46 rfl rfl (by decide +kernel) bw5 bw6 (fun c7 => w_f b220 d220_53 rfl rfl rfl <| w_rz b220 d220_54 r220 (by decide) (((((((h.1 c1).2.2 w2 lw2 bw2) w3 lw3 bw3).2 c4).2.2 w5 lw5 bw5) w6 lw6 bw6).1 c7)) (fun c7 => w_f b220 d220_49 rfl rfl rfl <| w_j b220 d220_50 rfl (by decide +kernel) <| w_rz b220 d220_54 r220 (by decide) (((((((h.1 c1).2.2 w2 lw2 bw2) w3 lw3 bw3).2 c4).2.2 w5 lw5 bw5) w6 lw6 bw6).2 c7)))))))) (fun c1 => w_f b220 d220_5 rfl rfl rfl <| w_f b220 d220_6 rfl rfl rfl <| w_cc b220 d220_7 rfl (pcl_v (n := 1) rfl rfl rfl (by decide +kernel) (sh_isOb hl.sh (tlt 0 rfl) tbC_0) rfl rfl) rfl <| q65_2 hl ⟨by decide, by decide⟩ (fun w8 lw8 bw8 => w_ifle b220 d220_10 rfl rfl (by decide +kernel) bw8 (fun c9 => w_f b220 d220_17 rfl rfl rfl <| w_j b220 d220_18 rfl (by decide +kernel) <| w_rz b220 d220_54 r220 (by decide) (((h.2 c1) w8 lw8 bw8).1 c9)) (fun c9 => w_f b220 d220_13 rfl rfl rfl <| w_j b220 d220_14 rfl (by decide +kernel) <| w_rz b220 d220_54 r220 (by decide) (((h.2 c1) w8 lw8 bw8).2 c9))))
theorem e220 {w : PW} {Q : PO → PW → Prop} {m : Row} {H : Nat → Row} {n : Nat} {k0 : Option Row} {sn : Nat} {sf : Nat → Int32} {x1 : Int} {x2 : Int} (hl : LW w m H n k0 sn sf) (hx1 : bd x1) (hx2 : bd x2) (h : (x1 ≠ x2 → (0 ≤ x1 ∧ x1 < m 0) ∧ (0 ≤ x2 ∧ x2 < m 0) ∧ ∀ w2 : PW, LW w2 m H n k0 sn sf → bd (wayI (m 0) x1 x2) → ∀ w3 : PW, LW w3 m H n k0 sn sf → bd (m 2) → ((wayI (m 0) x1 x2) < (m 2) → Q (.inl (some (iv 1))) w3) ∧ ((m 2) ≤ (wayI (m 0) x1 x2) → (0 ≤ x2 ∧ x2 < m 0) ∧ (0 ≤ x1 ∧ x1 < m 0) ∧ ∀ w5 : PW, LW w5 m H n k0 sn sf → bd (wayI (m 0) x2 x1) → ∀ w6 : PW, LW w6 m H n k0 sn sf → bd (m 2) → ((m 2) ≤ (wayI (m 0) x2 x1) → Q (.inl (some (iv 0))) w6) ∧ ((wayI (m 0) x2 x1) < (m 2) → Q (.inl (some (iv 1))) w6))) ∧ (x1 = x2 → ∀ w8 : PW, LW w8 m H n k0 sn sf → bd (m 2) → ((m 2) ≤ 0 → Q (.inl (some (iv 0))) w8) ∧ (0 < (m 2) → Q (.inl (some (iv 1))) w8))) : pC 220 [.ref 0, iv x1, iv x2] w Q :=
  (pC_in (Nat.le_of_ble_eq_true rfl) rfl Q).mpr (v220_0 hl hx1 hx2 h)
theorem q220 {w : PW} {Q : PO → PW → Prop} {m : Row} {H : Nat → Row} {n : Nat} {k0 : Option Row} {sn : Nat} {sf : Nat → Int32} {x1 x2 : Int} (hl : LW w m H n k0 sn sf) (hx1 : bd x1) (hx2 : bd x2) (h1 : 0 ≤ x1 ∧ x1 < m 0) (h2 : 0 ≤ x2 ∧ x2 < m 0) (h : ∀ w', LW w' m H n k0 sn sf → Q (.inl (some (iv (if nearI (m 0) x1 x2 (m 2) = true then 1 else 0)))) w') : pC 220 [.ref 0, iv x1, iv x2] w Q := by
  have y : nearI (m 0) x1 x2 (m 2) = true → ∀ w', LW w' m H n k0 sn sf → Q (.inl (some (iv 1))) w' := fun q w' l' => by have := h w' l'; rw [if_pos q] at this; exact this
  have no : ¬ nearI (m 0) x1 x2 (m 2) = true → ∀ w', LW w' m H n k0 sn sf → Q (.inl (some (iv 0))) w' := fun q w' l' => by have := h w' l'; rw [if_neg q] at this; exact this
  have near : nearI (m 0) x1 x2 (m 2) = true ↔ (x1 = x2 ∧ 0 < m 2) ∨ (x1 ≠ x2 ∧ (wayI (m 0) x1 x2 < m 2 ∨ wayI (m 0) x2 x1 < m 2)) := by unfold nearI; exact decide_eq_true_iff
  refine e220 hl hx1 hx2 ⟨fun q => ⟨h1, h2, fun w2 l2 _ w3 l3 _ => ⟨fun a => y (near.mpr (Or.inr ⟨q, Or.inl a⟩)) w3 l3, fun a => ⟨h2, h1, fun w5 l5 _ w6 l6 _ => ⟨fun b => no (fun z => (near.mp z).elim (fun z => q z.1) (fun z => z.2.elim (fun z => by omega) (fun z => by omega))) w6 l6, fun b => y (near.mpr (Or.inr ⟨q, Or.inr b⟩)) w6 l6⟩⟩⟩⟩, fun q w8 l8 _ => ⟨fun a => no (fun z => (near.mp z).elim (fun z => by omega) (fun z => z.1 q)) w8 l8, fun a => y (near.mpr (Or.inl ⟨q, a⟩)) w8 l8⟩⟩
