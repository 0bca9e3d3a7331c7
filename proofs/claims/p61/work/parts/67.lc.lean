/-! THE LAW's METHODS: cell, pitch -/
/-- a number of the script, as the law takes it -/
def cv (sn : Nat) (sf : Nat → Int32) (x : Nat) : Nat := if sn = 0 then 0 else ((sf (x % sn)).toInt.tmod 100000).natAbs
theorem cv_lt (sn : Nat) (sf : Nat → Int32) (x : Nat) : cv sn sf x < 100000 := by
  unfold cv
  split
  · decide
  · have h1 := Int.tmod_lt_of_pos (sf (x % sn)).toInt (show (0 : Int) < 100000 by decide)
    have h2 := Int.lt_tmod_of_pos (sf (x % sn)).toInt (show (0 : Int) < 100000 by decide)
    omega
/-! 215: PinBarrelLaw.cell([II)I -/
theorem b215 : mB 215 = cL_cell := rfl
theorem r215 : mR 215 = (some .int) := rfl
theorem p215 (a b : Nat) : phi 215 a ≤ phi 215 b := Nat.le_refl 0
theorem d215_0 : decode cL_cell 0 = .ok (.aload_n 0, 1) := by decide +kernel
theorem d215_1 : decode cL_cell 1 = .ok (.arraylength, 1) := by decide +kernel
theorem d215_2 : decode cL_cell 2 = .ok (.ifCond .ne 7, 3) := by decide +kernel
theorem d215_5 : decode cL_cell 5 = .ok (.iconst 0, 1) := by decide +kernel
theorem d215_6 : decode cL_cell 6 = .ok (.goto 15, 3) := by decide +kernel
theorem d215_9 : decode cL_cell 9 = .ok (.aload_n 0, 1) := by decide +kernel
theorem d215_10 : decode cL_cell 10 = .ok (.iload_n 1, 1) := by decide +kernel
theorem d215_11 : decode cL_cell 11 = .ok (.aload_n 0, 1) := by decide +kernel
theorem d215_12 : decode cL_cell 12 = .ok (.arraylength, 1) := by decide +kernel
theorem d215_13 : decode cL_cell 13 = .ok (.irem, 1) := by decide +kernel
theorem d215_14 : decode cL_cell 14 = .ok (.iaload, 1) := by decide +kernel
theorem d215_15 : decode cL_cell 15 = .ok (.ldc 7, 2) := by decide +kernel
theorem d215_17 : decode cL_cell 17 = .ok (.irem, 1) := by decide +kernel
theorem d215_18 : decode cL_cell 18 = .ok (.invokestatic 8, 3) := by decide +kernel
theorem d215_21 : decode cL_cell 21 = .ok (.ireturn, 1) := by decide +kernel
theorem v215_0 {w : PW} {Q : PO → PW → Prop} {sn : Nat} {sf : Nat → Int32} {x1 : Int} (hs : Sh w) (hsn : Nat.blt sn 2147483648 = true) (hx1 : bd x1) (h : (Sc w sn sf) ∧ (((sn : Int)) ≠ 0 → (Sc w sn sf) ∧ (0 < ((sn : Int)) ∧ ((sn : Int)) < 2147483648) ∧ (Sc w sn sf) ∧ (0 ≤ (x1.tmod ((sn : Int))) ∧ (x1.tmod ((sn : Int))) < sn) ∧ (-100000 < (((sf (x1.tmod ((sn : Int))).toNat).toInt).tmod 100000) ∧ (((sf (x1.tmod ((sn : Int))).toNat).toInt).tmod 100000) < 100000) ∧ Q (.inl (some (iv (if 0 ≤ (((sf (x1.tmod ((sn : Int))).toNat).toInt).tmod 100000) then (((sf (x1.tmod ((sn : Int))).toNat).toInt).tmod 100000) else -(((sf (x1.tmod ((sn : Int))).toNat).toInt).tmod 100000))))) w) ∧ (((sn : Int)) = 0 → Q (.inl (some (iv 0))) w)) : pX 215 0 [some (.ref pSC), some (iv x1)] [] w Q :=
  w_f b215 d215_0 rfl rfl rfl <| w_scn b215 d215_1 rfl h.1 <| w_ifne b215 d215_2 rfl rfl (p215 _ _) (bdn hsn) (fun c1 => w_f b215 d215_9 rfl rfl rfl <| w_f b215 d215_10 rfl rfl rfl <| w_f b215 d215_11 rfl rfl rfl <| w_scn b215 d215_12 rfl (h.2.1 c1).1 <| w_f b215 d215_13 rfl (pf_irem hx1 (h.2.1 c1).2.1) rfl <| w_scl b215 d215_14 rfl (h.2.1 c1).2.2.1 (bdix (n := sn) (h.2.1 c1).2.2.2.1 hsn) (h.2.1 c1).2.2.2.1 <| w_ldcI b215 d215_15 rfl rfl <| w_f b215 d215_17 rfl (pf_irem (bd_toInt _) ⟨by decide, by decide⟩) rfl <| w_abs b215 d215_18 rfl rfl rfl (h.2.1 c1).2.2.2.2.1 <| w_ri b215 d215_21 r215 (h.2.1 c1).2.2.2.2.2) (fun c1 => w_f b215 d215_5 rfl rfl rfl <| w_j b215 d215_6 rfl (p215 _ _) <| w_ri b215 d215_21 r215 (h.2.2 c1))
theorem e215 {w : PW} {Q : PO → PW → Prop} {sn : Nat} {sf : Nat → Int32} {x1 : Int} (hs : Sh w) (hsn : Nat.blt sn 2147483648 = true) (hx1 : bd x1) (h : (Sc w sn sf) ∧ (((sn : Int)) ≠ 0 → (Sc w sn sf) ∧ (0 < ((sn : Int)) ∧ ((sn : Int)) < 2147483648) ∧ (Sc w sn sf) ∧ (0 ≤ (x1.tmod ((sn : Int))) ∧ (x1.tmod ((sn : Int))) < sn) ∧ (-100000 < (((sf (x1.tmod ((sn : Int))).toNat).toInt).tmod 100000) ∧ (((sf (x1.tmod ((sn : Int))).toNat).toInt).tmod 100000) < 100000) ∧ Q (.inl (some (iv (if 0 ≤ (((sf (x1.tmod ((sn : Int))).toNat).toInt).tmod 100000) then (((sf (x1.tmod ((sn : Int))).toNat).toInt).tmod 100000) else -(((sf (x1.tmod ((sn : Int))).toNat).toInt).tmod 100000))))) w) ∧ (((sn : Int)) = 0 → Q (.inl (some (iv 0))) w)) : pC 215 [.ref pSC, iv x1] w Q :=
  (pC_in (Nat.le_of_ble_eq_true rfl) rfl Q).mpr (v215_0 hs hsn hx1 h)
/-! 217: PinBarrelLaw.pitch(I)I -/
theorem b217 : mB 217 = cL_pitch := rfl
theorem r217 : mR 217 = (some .int) := rfl
theorem p217 (a b : Nat) : phi 217 a ≤ phi 217 b := Nat.le_refl 0
theorem d217_0 : decode cL_pitch 0 = .ok (.iload_n 0, 1) := by decide +kernel
theorem d217_1 : decode cL_pitch 1 = .ok (.iconst 3, 1) := by decide +kernel
theorem d217_2 : decode cL_pitch 2 = .ok (.if_icmp .ne 8, 3) := by decide +kernel
theorem d217_5 : decode cL_pitch 5 = .ok (.bipush 12, 2) := by decide +kernel
theorem d217_7 : decode cL_pitch 7 = .ok (.goto 6, 3) := by decide +kernel
theorem d217_10 : decode cL_pitch 10 = .ok (.iconst 2, 1) := by decide +kernel
theorem d217_11 : decode cL_pitch 11 = .ok (.iload_n 0, 1) := by decide +kernel
theorem d217_12 : decode cL_pitch 12 = .ok (.imul, 1) := by decide +kernel
theorem d217_13 : decode cL_pitch 13 = .ok (.ireturn, 1) := by decide +kernel
theorem v217_0 {w : PW} {Q : PO → PW → Prop} {x0 : Int} (hs : Sh w) (hx0 : bd x0) (h : (x0 ≠ 3 → Q (.inl (some (iv (2 * x0)))) w) ∧ (x0 = 3 → Q (.inl (some (iv 12))) w)) : pX 217 0 [some (iv x0)] [] w Q :=
  w_f b217 d217_0 rfl rfl rfl <| w_f b217 d217_1 rfl rfl rfl <| w_icne b217 d217_2 rfl rfl (p217 _ _) hx0 ⟨by decide, by decide⟩ (fun c1 => w_f b217 d217_10 rfl rfl rfl <| w_f b217 d217_11 rfl rfl rfl <| w_f b217 d217_12 rfl (pf_imul 2 x0) rfl <| w_ri b217 d217_13 r217 (h.1 c1)) (fun c1 => w_f b217 d217_5 rfl rfl rfl <| w_j b217 d217_7 rfl (p217 _ _) <| w_ri b217 d217_13 r217 (h.2 c1))
theorem e217 {w : PW} {Q : PO → PW → Prop} {x0 : Int} (hs : Sh w) (hx0 : bd x0) (h : (x0 ≠ 3 → Q (.inl (some (iv (2 * x0)))) w) ∧ (x0 = 3 → Q (.inl (some (iv 12))) w)) : pC 217 [iv x0] w Q :=
  (pC_in (Nat.le_of_ble_eq_true rfl) rfl Q).mpr (v217_0 hs hx0 h)
theorem q215 {w : PW} {Q : PO → PW → Prop} {m : Row} {H : Nat → Row} {n : Nat} {k0 : Option Row} {sn : Nat} {sf : Nat → Int32} {x1 : Int} (hsn : Nat.blt sn 2147483648 = true) (hl : LW w m H n k0 sn sf) (hx1 : bd x1) (hx : 0 ≤ x1) (h : qh m H n k0 sn sf Q (cv sn sf x1.toNat : Nat)) : pC 215 [.ref pSC, iv x1] w Q := by
  have hlt := cv_lt sn sf x1.toNat
  have h := h w hl ⟨by omega, by omega⟩
  refine e215 hl.sh hsn hx1 ⟨hl.sc, fun q => ?_, fun q => ?_⟩
  · have h2 : sn < 2147483648 := Nat.le_of_ble_eq_true hsn
    obtain ⟨k, rfl⟩ := nat_of hx
    have hs : 0 < sn := by omega
    have e : ((k : Nat) : Int).tmod ((sn : Nat) : Int) = ((k % sn : Nat) : Int) := by
      rw [Int.tmod_eq_emod_of_nonneg (by omega), Int.natCast_emod]
    have hm := Nat.mod_lt k hs
    rw [e, Int.toNat_natCast]
    have b1 := Int.tmod_lt_of_pos (sf (k % sn)).toInt (show (0 : Int) < 100000 by decide)
    have b2 := Int.lt_tmod_of_pos (sf (k % sn)).toInt (show (0 : Int) < 100000 by decide)
    refine ⟨hl.sc, ⟨by omega, by omega⟩, hl.sc, ⟨by omega, by omega⟩, ⟨by omega, by omega⟩, ?_⟩
    rw [Int.toNat_natCast] at h
    unfold cv at h
    rw [if_neg (by omega)] at h
    generalize (sf (k % sn)).toInt.tmod 100000 = z at h ⊢
    rw [show (if 0 ≤ z then z else -z) = ((z.natAbs : Nat) : Int) from by split <;> omega]
    exact h
  · unfold cv at h
    rw [if_pos (by omega)] at h
    exact h
theorem c217 {w : PW} {Q : PO → PW → Prop} {x0 : Int} (hs : Sh w) (hx0 : bd x0) (h0 : 0 ≤ x0 ∧ x0 ≤ 3) (h : Q (rI (if x0 = 3 then 12 else 2 * x0)) w) : pC 217 [iv x0] w Q :=
  e217 hs hx0 ⟨fun q => by rw [if_neg q] at h; exact h, fun q => by rw [if_pos q] at h; exact h⟩
