/-! THE MODEL's FACE: questions -/
/-! 282: PinBarrelModel.conflicts(I)I -/
theorem b282 : mB 282 = cX9_conflicts := rfl
theorem r282 : mR 282 = (some .int) := rfl
theorem p282 (a b : Nat) : phi 282 a ≤ phi 282 b := Nat.le_refl 0
theorem d282_0 : decode cX9_conflicts 0 = .ok (.aload_n 0, 1) := by decide +kernel
theorem d282_1 : decode cX9_conflicts 1 = .ok (.iload_n 1, 1) := by decide +kernel
theorem d282_2 : decode cX9_conflicts 2 = .ok (.invokevirtual 377, 3) := by decide +kernel
theorem d282_5 : decode cX9_conflicts 5 = .ok (.ifCond .eq 7, 3) := by decide +kernel
theorem d282_8 : decode cX9_conflicts 8 = .ok (.iconst 0, 1) := by decide +kernel
theorem d282_9 : decode cX9_conflicts 9 = .ok (.goto 8, 3) := by decide +kernel
theorem d282_12 : decode cX9_conflicts 12 = .ok (.aload_n 0, 1) := by decide +kernel
theorem d282_13 : decode cX9_conflicts 13 = .ok (.iload_n 1, 1) := by decide +kernel
theorem d282_14 : decode cX9_conflicts 14 = .ok (.invokevirtual 380, 3) := by decide +kernel
theorem d282_17 : decode cX9_conflicts 17 = .ok (.ireturn, 1) := by decide +kernel
theorem v282_0 {w : PW} {Q : PO → PW → Prop} {x1 : Int} (hs : Sh w) (hx1 : bd x1) (h : (bd ((gI w 170 1) - 1)) ∧ ((0 ≤ x1 ∧ x1 < gI w 170 1) → ∀ w2 : PW, w2 = sI w 169 0 0 → pC 281 [.ref 169, iv x1] w2 (kI fun u4 w3 => Sh w3 ∧ Q (.inl (some (iv u4))) w3)) ∧ ((¬ (0 ≤ x1 ∧ x1 < gI w 170 1)) → ∀ w6 : PW, w6 = sI w 169 0 1 → Q (.inl (some (iv 0))) w6)) : pX 282 0 [some (.ref 169), some (iv x1)] [] w Q :=
  w_f b282 d282_0 rfl rfl rfl <| w_f b282 d282_1 rfl rfl rfl <| w_cc b282 d282_2 rfl (pcl_v (n := 1) rfl rfl rfl (by decide +kernel) (sh_isOb hs (tlt 169 rfl) tbC_169) rfl rfl) rfl <| c275 hs hx1 h.1 (fun c1 => w_ifeq b282 d282_5 rfl rfl (p282 _ _) ⟨by decide, by decide⟩ (fun _ => w_f b282 d282_12 rfl rfl rfl <| w_f b282 d282_13 rfl rfl rfl <| w_c b282 d282_14 rfl (pcl_v (n := 1) rfl rfl rfl (by decide +kernel) (sh_isOb (Sh_sI hs (slt_o tbC_169 rfl)) (tlt 169 rfl) tbC_169) rfl rfl) rfl _ (hK_I fun u4 w3 hbu4 hkw3 => w_ri b282 d282_17 r282 hkw3.2) (h.2.1 c1 _ rfl)) (fun c => absurd c (by decide))) (fun c5 => w_ifeq b282 d282_5 rfl rfl (p282 _ _) ⟨by decide, by decide⟩ (fun c => absurd c (by decide)) (fun _ => w_f b282 d282_8 rfl rfl rfl <| w_j b282 d282_9 rfl (p282 _ _) <| w_ri b282 d282_17 r282 (h.2.2 c5 _ rfl)))
theorem e282 {w : PW} {Q : PO → PW → Prop} {x1 : Int} (hs : Sh w) (hx1 : bd x1) (h : (bd ((gI w 170 1) - 1)) ∧ ((0 ≤ x1 ∧ x1 < gI w 170 1) → ∀ w2 : PW, w2 = sI w 169 0 0 → pC 281 [.ref 169, iv x1] w2 (kI fun u4 w3 => Sh w3 ∧ Q (.inl (some (iv u4))) w3)) ∧ ((¬ (0 ≤ x1 ∧ x1 < gI w 170 1)) → ∀ w6 : PW, w6 = sI w 169 0 1 → Q (.inl (some (iv 0))) w6)) : pC 282 [.ref 169, iv x1] w Q :=
  (pC_in (Nat.le_of_ble_eq_true rfl) rfl Q).mpr (v282_0 hs hx1 h)
/-! 286: PinBarrelModel.missing(I)I -/
theorem b286 : mB 286 = cX9_missing := rfl
theorem r286 : mR 286 = (some .int) := rfl
theorem p286 (a b : Nat) : phi 286 a ≤ phi 286 b := Nat.le_refl 0
theorem d286_0 : decode cX9_missing 0 = .ok (.aload_n 0, 1) := by decide +kernel
theorem d286_1 : decode cX9_missing 1 = .ok (.iload_n 1, 1) := by decide +kernel
theorem d286_2 : decode cX9_missing 2 = .ok (.invokevirtual 377, 3) := by decide +kernel
theorem d286_5 : decode cX9_missing 5 = .ok (.ifCond .eq 7, 3) := by decide +kernel
theorem d286_8 : decode cX9_missing 8 = .ok (.iconst 0, 1) := by decide +kernel
theorem d286_9 : decode cX9_missing 9 = .ok (.goto 8, 3) := by decide +kernel
theorem d286_12 : decode cX9_missing 12 = .ok (.aload_n 0, 1) := by decide +kernel
theorem d286_13 : decode cX9_missing 13 = .ok (.iload_n 1, 1) := by decide +kernel
theorem d286_14 : decode cX9_missing 14 = .ok (.invokevirtual 295, 3) := by decide +kernel
theorem d286_17 : decode cX9_missing 17 = .ok (.ireturn, 1) := by decide +kernel
theorem v286_0 {w : PW} {Q : PO → PW → Prop} {x1 : Int} (hs : Sh w) (hx1 : bd x1) (h : (bd ((gI w 170 1) - 1)) ∧ ((0 ≤ x1 ∧ x1 < gI w 170 1) → ∀ w2 : PW, w2 = sI w 169 0 0 → pC 285 [.ref 169, iv x1] w2 (kI fun u4 w3 => Sh w3 ∧ Q (.inl (some (iv u4))) w3)) ∧ ((¬ (0 ≤ x1 ∧ x1 < gI w 170 1)) → ∀ w6 : PW, w6 = sI w 169 0 1 → Q (.inl (some (iv 0))) w6)) : pX 286 0 [some (.ref 169), some (iv x1)] [] w Q :=
  w_f b286 d286_0 rfl rfl rfl <| w_f b286 d286_1 rfl rfl rfl <| w_cc b286 d286_2 rfl (pcl_v (n := 1) rfl rfl rfl (by decide +kernel) (sh_isOb hs (tlt 169 rfl) tbC_169) rfl rfl) rfl <| c275 hs hx1 h.1 (fun c1 => w_ifeq b286 d286_5 rfl rfl (p286 _ _) ⟨by decide, by decide⟩ (fun _ => w_f b286 d286_12 rfl rfl rfl <| w_f b286 d286_13 rfl rfl rfl <| w_c b286 d286_14 rfl (pcl_v (n := 1) rfl rfl rfl (by decide +kernel) (sh_isOb (Sh_sI hs (slt_o tbC_169 rfl)) (tlt 169 rfl) tbC_169) rfl rfl) rfl _ (hK_I fun u4 w3 hbu4 hkw3 => w_ri b286 d286_17 r286 hkw3.2) (h.2.1 c1 _ rfl)) (fun c => absurd c (by decide))) (fun c5 => w_ifeq b286 d286_5 rfl rfl (p286 _ _) ⟨by decide, by decide⟩ (fun c => absurd c (by decide)) (fun _ => w_f b286 d286_8 rfl rfl rfl <| w_j b286 d286_9 rfl (p286 _ _) <| w_ri b286 d286_17 r286 (h.2.2 c5 _ rfl)))
theorem e286 {w : PW} {Q : PO → PW → Prop} {x1 : Int} (hs : Sh w) (hx1 : bd x1) (h : (bd ((gI w 170 1) - 1)) ∧ ((0 ≤ x1 ∧ x1 < gI w 170 1) → ∀ w2 : PW, w2 = sI w 169 0 0 → pC 285 [.ref 169, iv x1] w2 (kI fun u4 w3 => Sh w3 ∧ Q (.inl (some (iv u4))) w3)) ∧ ((¬ (0 ≤ x1 ∧ x1 < gI w 170 1)) → ∀ w6 : PW, w6 = sI w 169 0 1 → Q (.inl (some (iv 0))) w6)) : pC 286 [.ref 169, iv x1] w Q :=
  (pC_in (Nat.le_of_ble_eq_true rfl) rfl Q).mpr (v286_0 hs hx1 h)
/-! 289: PinBarrelModel.extra(I)I -/
theorem b289 : mB 289 = cX9_extra := rfl
theorem r289 : mR 289 = (some .int) := rfl
theorem p289 (a b : Nat) : phi 289 a ≤ phi 289 b := Nat.le_refl 0
theorem d289_0 : decode cX9_extra 0 = .ok (.aload_n 0, 1) := by decide +kernel
theorem d289_1 : decode cX9_extra 1 = .ok (.iload_n 1, 1) := by decide +kernel
theorem d289_2 : decode cX9_extra 2 = .ok (.invokevirtual 377, 3) := by decide +kernel
theorem d289_5 : decode cX9_extra 5 = .ok (.ifCond .eq 7, 3) := by decide +kernel
theorem d289_8 : decode cX9_extra 8 = .ok (.iconst 0, 1) := by decide +kernel
theorem d289_9 : decode cX9_extra 9 = .ok (.goto 8, 3) := by decide +kernel
theorem d289_12 : decode cX9_extra 12 = .ok (.aload_n 0, 1) := by decide +kernel
theorem d289_13 : decode cX9_extra 13 = .ok (.iload_n 1, 1) := by decide +kernel
theorem d289_14 : decode cX9_extra 14 = .ok (.invokevirtual 385, 3) := by decide +kernel
theorem d289_17 : decode cX9_extra 17 = .ok (.ireturn, 1) := by decide +kernel
theorem v289_0 {w : PW} {Q : PO → PW → Prop} {x1 : Int} (hs : Sh w) (hx1 : bd x1) (h : (bd ((gI w 170 1) - 1)) ∧ ((0 ≤ x1 ∧ x1 < gI w 170 1) → ∀ w2 : PW, w2 = sI w 169 0 0 → pC 288 [.ref 169, iv x1] w2 (kI fun u4 w3 => Sh w3 ∧ Q (.inl (some (iv u4))) w3)) ∧ ((¬ (0 ≤ x1 ∧ x1 < gI w 170 1)) → ∀ w6 : PW, w6 = sI w 169 0 1 → Q (.inl (some (iv 0))) w6)) : pX 289 0 [some (.ref 169), some (iv x1)] [] w Q :=
  w_f b289 d289_0 rfl rfl rfl <| w_f b289 d289_1 rfl rfl rfl <| w_cc b289 d289_2 rfl (pcl_v (n := 1) rfl rfl rfl (by decide +kernel) (sh_isOb hs (tlt 169 rfl) tbC_169) rfl rfl) rfl <| c275 hs hx1 h.1 (fun c1 => w_ifeq b289 d289_5 rfl rfl (p289 _ _) ⟨by decide, by decide⟩ (fun _ => w_f b289 d289_12 rfl rfl rfl <| w_f b289 d289_13 rfl rfl rfl <| w_c b289 d289_14 rfl (pcl_v (n := 1) rfl rfl rfl (by decide +kernel) (sh_isOb (Sh_sI hs (slt_o tbC_169 rfl)) (tlt 169 rfl) tbC_169) rfl rfl) rfl _ (hK_I fun u4 w3 hbu4 hkw3 => w_ri b289 d289_17 r289 hkw3.2) (h.2.1 c1 _ rfl)) (fun c => absurd c (by decide))) (fun c5 => w_ifeq b289 d289_5 rfl rfl (p289 _ _) ⟨by decide, by decide⟩ (fun c => absurd c (by decide)) (fun _ => w_f b289 d289_8 rfl rfl rfl <| w_j b289 d289_9 rfl (p289 _ _) <| w_ri b289 d289_17 r289 (h.2.2 c5 _ rfl)))
theorem e289 {w : PW} {Q : PO → PW → Prop} {x1 : Int} (hs : Sh w) (hx1 : bd x1) (h : (bd ((gI w 170 1) - 1)) ∧ ((0 ≤ x1 ∧ x1 < gI w 170 1) → ∀ w2 : PW, w2 = sI w 169 0 0 → pC 288 [.ref 169, iv x1] w2 (kI fun u4 w3 => Sh w3 ∧ Q (.inl (some (iv u4))) w3)) ∧ ((¬ (0 ≤ x1 ∧ x1 < gI w 170 1)) → ∀ w6 : PW, w6 = sI w 169 0 1 → Q (.inl (some (iv 0))) w6)) : pC 289 [.ref 169, iv x1] w Q :=
  (pC_in (Nat.le_of_ble_eq_true rfl) rfl Q).mpr (v289_0 hs hx1 h)
section MQ2
variable {w : PW} {Q : PO → PW → Prop} {m : Row} {x1 : Int}
theorem c282 (hs : Sh w) (hM : MR w m) (hx1 : bd x1) (h : ∀ w2, MqF w w2 → gI w2 169 0 = moE (sp93 m x1) → Q (moV (sp93 m x1)) w2) : pC 282 [.ref 169, iv x1] w Q := by
  have h1 := hM.ok.u
  refine e282 hs hx1 ?_
  rw [hM.g (k := 1) rfl]
  refine ⟨⟨by omega, by omega⟩, fun q w2 e2 => ?_, fun q w3 e3 => ?_⟩
  · obtain ⟨F2, g2⟩ := MqF.th hs e2 bd0
    have h2 := mo_t h q
    obtain ⟨u, rfl⟩ := nat_of q.1
    have hb := sCf_768 hM.ok u
    exact c281 F2.1 (F2.mr hM) q.2 (fun w3 F3 => kI_iv (bdk (by omega)) ⟨F3.1, h2 w3 (F2.tr F3.2.1) (F3.2.2.1.trans g2)⟩)
  · obtain ⟨F3, g3⟩ := MqF.th hs e3 ⟨by decide, by decide⟩
    exact mo_f h q w3 F3 g3
theorem c286 (hs : Sh w) (hM : MR w m) (hx1 : bd x1) (h : ∀ w2, MqF w w2 → gI w2 169 0 = moE (sp108 m x1) → Q (moV (sp108 m x1)) w2) : pC 286 [.ref 169, iv x1] w Q := by
  have h1 := hM.ok.u
  have h5 := hM.ok.n
  refine e286 hs hx1 ?_
  rw [hM.g (k := 1) rfl]
  refine ⟨⟨by omega, by omega⟩, fun q w2 e2 => ?_, fun q w3 e3 => ?_⟩
  · obtain ⟨F2, g2⟩ := MqF.th hs e2 bd0
    have h2 := mo_t h q
    have e := sMiss_eq m x1
    have a2 : sMiss m x1 ≤ (m 5).toNat := cnt_le _ _
    rw [show ((sNotes m x1 : Nat) : Int) - (sPlayed m x1 : Nat) = (sMiss m x1 : Nat) from by omega] at h2
    exact c285 F2.1 (F2.mr hM) hx1 (kI_iv (bdk (by omega)) ⟨F2.1, h2 w2 F2 g2⟩)
  · obtain ⟨F3, g3⟩ := MqF.th hs e3 ⟨by decide, by decide⟩
    exact mo_f h q w3 F3 g3
theorem c289 (hs : Sh w) (hM : MR w m) (hx1 : bd x1) (h : ∀ w2, MqF w w2 → gI w2 169 0 = moE (sp110 m x1) → Q (moV (sp110 m x1)) w2) : pC 289 [.ref 169, iv x1] w Q := by
  have h1 := hM.ok.u
  have h5 := hM.ok.n
  refine e289 hs hx1 ?_
  rw [hM.g (k := 1) rfl]
  refine ⟨⟨by omega, by omega⟩, fun q w2 e2 => ?_, fun q w3 e3 => ?_⟩
  · obtain ⟨F2, g2⟩ := MqF.th hs e2 bd0
    have h2 := mo_t h q
    have e := sMiss_eq m x1
    have a1 : sNotes m x1 ≤ (m 5).toNat := cnt_le _ _
    have a2 : sMiss m x1 ≤ (m 5).toNat := cnt_le _ _
    have hp := sPins_bd hM.ok x1.toNat
    rw [show sPins m x1.toNat - ((sPlayed m x1 : Nat) : Int) = sPins m x1.toNat - (sNotes m x1 : Nat) + (sMiss m x1 : Nat) from by omega] at h2
    obtain ⟨u, rfl⟩ := nat_of q.1
    rw [Int.toNat_natCast] at h2 hp
    exact c288 F2.1 (F2.mr hM) q.2 (kI_iv ⟨by omega, by omega⟩ ⟨F2.1, h2 w2 F2 g2⟩)
  · obtain ⟨F3, g3⟩ := MqF.th hs e3 ⟨by decide, by decide⟩
    exact mo_f h q w3 F3 g3
end MQ2
