/-! THE MODEL: notes -/
/-! 287: PinBarrelModel.notesOf(I)I -/
theorem b287 : mB 287 = cX9_notesOf := rfl
theorem r287 : mR 287 = (some .int) := rfl
theorem p287 (a b : Nat) : phi 287 a ≤ phi 287 b := Nat.le_refl 0
theorem d287_0 : decode cX9_notesOf 0 = .ok (.iconst 0, 1) := by decide +kernel
theorem d287_1 : decode cX9_notesOf 1 = .ok (.istore_n 2, 1) := by decide +kernel
theorem d287_2 : decode cX9_notesOf 2 = .ok (.iconst 0, 1) := by decide +kernel
theorem d287_3 : decode cX9_notesOf 3 = .ok (.istore_n 3, 1) := by decide +kernel
theorem d287_4 : decode cX9_notesOf 4 = .ok (.iload_n 3, 1) := by decide +kernel
theorem d287_5 : decode cX9_notesOf 5 = .ok (.aload_n 0, 1) := by decide +kernel
theorem d287_6 : decode cX9_notesOf 6 = .ok (.getfield 9, 3) := by decide +kernel
theorem d287_9 : decode cX9_notesOf 9 = .ok (.iconst 5, 1) := by decide +kernel
theorem d287_10 : decode cX9_notesOf 10 = .ok (.iaload, 1) := by decide +kernel
theorem d287_11 : decode cX9_notesOf 11 = .ok (.if_icmp .ge 27, 3) := by decide +kernel
theorem d287_14 : decode cX9_notesOf 14 = .ok (.iload_n 2, 1) := by decide +kernel
theorem d287_15 : decode cX9_notesOf 15 = .ok (.aload_n 0, 1) := by decide +kernel
theorem d287_16 : decode cX9_notesOf 16 = .ok (.iload_n 3, 1) := by decide +kernel
theorem d287_17 : decode cX9_notesOf 17 = .ok (.iconst 0, 1) := by decide +kernel
theorem d287_18 : decode cX9_notesOf 18 = .ok (.invokevirtual 283, 3) := by decide +kernel
theorem d287_21 : decode cX9_notesOf 21 = .ok (.iload_n 1, 1) := by decide +kernel
theorem d287_22 : decode cX9_notesOf 22 = .ok (.if_icmp .ne 7, 3) := by decide +kernel
theorem d287_25 : decode cX9_notesOf 25 = .ok (.iconst 1, 1) := by decide +kernel
theorem d287_26 : decode cX9_notesOf 26 = .ok (.goto 4, 3) := by decide +kernel
theorem d287_29 : decode cX9_notesOf 29 = .ok (.iconst 0, 1) := by decide +kernel
theorem d287_30 : decode cX9_notesOf 30 = .ok (.iadd, 1) := by decide +kernel
theorem d287_31 : decode cX9_notesOf 31 = .ok (.istore_n 2, 1) := by decide +kernel
theorem d287_32 : decode cX9_notesOf 32 = .ok (.iinc 3 1, 3) := by decide +kernel
theorem d287_35 : decode cX9_notesOf 35 = .ok (.goto (-31), 3) := by decide +kernel
theorem d287_38 : decode cX9_notesOf 38 = .ok (.iload_n 2, 1) := by decide +kernel
theorem d287_39 : decode cX9_notesOf 39 = .ok (.ireturn, 1) := by decide +kernel
theorem v287_0 {w : PW} {Q : PO → PW → Prop} {x1 : Int} (hs : Sh w) (hx1 : bd x1) (h : pX 287 4 [some (.ref 169), some (iv x1), some (iv 0), some (iv 0)] [] w Q) : pX 287 0 [some (.ref 169), some (iv x1), none, none] [] w Q :=
  w_f b287 d287_0 rfl rfl rfl <| w_f b287 d287_1 rfl rfl rfl <| w_f b287 d287_2 rfl rfl rfl <| w_f b287 d287_3 rfl rfl rfl <| h
theorem e287 {w : PW} {Q : PO → PW → Prop} {x1 : Int} (hs : Sh w) (hx1 : bd x1) (h : pX 287 4 [some (.ref 169), some (iv x1), some (iv 0), some (iv 0)] [] w Q) : pC 287 [.ref 169, iv x1] w Q :=
  (pC_in (Nat.le_of_ble_eq_true rfl) rfl Q).mpr (v287_0 hs hx1 h)
theorem v287_4 {w : PW} {Q : PO → PW → Prop} {x1 : Int} {x2 : Int} {x3 : Int} (hs : Sh w) (hx1 : bd x1) (hx2 : bd x2) (hx3 : bd x3) (h : ((gI w 170 5) ≤ x3 → Q (.inl (some (iv x2))) w) ∧ (x3 < (gI w 170 5) → (0 ≤ (71 + 3 * x3) + 0 ∧ (71 + 3 * x3) + 0 < 843) ∧ ((gI w 170 ((71 + 3 * x3) + 0).toNat) ≠ x1 → pX 287 4 [some (.ref 169), some (iv x1), some (iv (x2 + 0)), some (iv (x3 + 1))] [] w Q) ∧ ((gI w 170 ((71 + 3 * x3) + 0).toNat) = x1 → pX 287 4 [some (.ref 169), some (iv x1), some (iv (x2 + 1)), some (iv (x3 + 1))] [] w Q))) : pX 287 4 [some (.ref 169), some (iv x1), some (iv x2), some (iv x3)] [] w Q :=
  w_f b287 d287_4 rfl rfl rfl <| w_f b287 d287_5 rfl rfl rfl <| w_gr b287 d287_6 rfl rfl hs (tlt 169 rfl) tbC_169 rfl (by decide) <| w_f b287 d287_9 rfl rfl rfl <| w_ial b287 d287_10 rfl hs (tlt 170 rfl) tbC_170 (bdix (n := 843) ⟨by decide, by decide⟩ rfl) ⟨by decide, by decide⟩ <| w_icge b287 d287_11 rfl rfl (p287 _ _) hx3 (bd_gI _ _ _) (fun c1 => w_f b287 d287_38 rfl rfl rfl <| w_ri b287 d287_39 r287 (h.1 c1)) (fun c1 => w_f b287 d287_14 rfl rfl rfl <| w_f b287 d287_15 rfl rfl rfl <| w_f b287 d287_16 rfl rfl rfl <| w_f b287 d287_17 rfl rfl rfl <| w_cc b287 d287_18 rfl (pcl_v (n := 2) rfl rfl rfl (by decide +kernel) (sh_isOb hs (tlt 169 rfl) tbC_169) rfl rfl) rfl <| c267 hs hx3 ⟨by decide, by decide⟩ (h.2 c1).1 <| w_f b287 d287_21 rfl rfl rfl <| w_icne b287 d287_22 rfl rfl (p287 _ _) (bd_gI _ _ _) hx1 (fun c2 => w_f b287 d287_29 rfl rfl rfl <| w_f b287 d287_30 rfl (pf_iadd x2 0) rfl <| w_f b287 d287_31 rfl rfl rfl <| w_f b287 d287_32 rfl (pf_iinc rfl rfl) rfl <| w_j b287 d287_35 rfl (p287 _ _) <| ((h.2 c1).2.1 c2)) (fun c2 => w_f b287 d287_25 rfl rfl rfl <| w_j b287 d287_26 rfl (p287 _ _) <| w_f b287 d287_30 rfl (pf_iadd x2 1) rfl <| w_f b287 d287_31 rfl rfl rfl <| w_f b287 d287_32 rfl (pf_iinc rfl rfl) rfl <| w_j b287 d287_35 rfl (p287 _ _) <| ((h.2 c1).2.2 c2)))
/-! 268: PinBarrelModel.isAlike(II)Z -/
theorem b268 : mB 268 = cX9_isAlike := rfl
theorem r268 : mR 268 = (some .boolean) := rfl
theorem p268 (a b : Nat) : phi 268 a ≤ phi 268 b := Nat.le_refl 0
theorem d268_0 : decode cX9_isAlike 0 = .ok (.aload_n 0, 1) := by decide +kernel
theorem d268_1 : decode cX9_isAlike 1 = .ok (.iload_n 1, 1) := by decide +kernel
theorem d268_2 : decode cX9_isAlike 2 = .ok (.iconst 0, 1) := by decide +kernel
theorem d268_3 : decode cX9_isAlike 3 = .ok (.invokevirtual 283, 3) := by decide +kernel
theorem d268_6 : decode cX9_isAlike 6 = .ok (.aload_n 0, 1) := by decide +kernel
theorem d268_7 : decode cX9_isAlike 7 = .ok (.iload_n 2, 1) := by decide +kernel
theorem d268_8 : decode cX9_isAlike 8 = .ok (.iconst 0, 1) := by decide +kernel
theorem d268_9 : decode cX9_isAlike 9 = .ok (.invokevirtual 283, 3) := by decide +kernel
theorem d268_12 : decode cX9_isAlike 12 = .ok (.if_icmp .ne 37, 3) := by decide +kernel
theorem d268_15 : decode cX9_isAlike 15 = .ok (.aload_n 0, 1) := by decide +kernel
theorem d268_16 : decode cX9_isAlike 16 = .ok (.iload_n 1, 1) := by decide +kernel
theorem d268_17 : decode cX9_isAlike 17 = .ok (.iconst 1, 1) := by decide +kernel
theorem d268_18 : decode cX9_isAlike 18 = .ok (.invokevirtual 283, 3) := by decide +kernel
theorem d268_21 : decode cX9_isAlike 21 = .ok (.aload_n 0, 1) := by decide +kernel
theorem d268_22 : decode cX9_isAlike 22 = .ok (.iload_n 2, 1) := by decide +kernel
theorem d268_23 : decode cX9_isAlike 23 = .ok (.iconst 1, 1) := by decide +kernel
theorem d268_24 : decode cX9_isAlike 24 = .ok (.invokevirtual 283, 3) := by decide +kernel
theorem d268_27 : decode cX9_isAlike 27 = .ok (.if_icmp .ne 22, 3) := by decide +kernel
theorem d268_30 : decode cX9_isAlike 30 = .ok (.aload_n 0, 1) := by decide +kernel
theorem d268_31 : decode cX9_isAlike 31 = .ok (.iload_n 1, 1) := by decide +kernel
theorem d268_32 : decode cX9_isAlike 32 = .ok (.iconst 2, 1) := by decide +kernel
theorem d268_33 : decode cX9_isAlike 33 = .ok (.invokevirtual 283, 3) := by decide +kernel
theorem d268_36 : decode cX9_isAlike 36 = .ok (.aload_n 0, 1) := by decide +kernel
theorem d268_37 : decode cX9_isAlike 37 = .ok (.iload_n 2, 1) := by decide +kernel
theorem d268_38 : decode cX9_isAlike 38 = .ok (.iconst 2, 1) := by decide +kernel
theorem d268_39 : decode cX9_isAlike 39 = .ok (.invokevirtual 283, 3) := by decide +kernel
theorem d268_42 : decode cX9_isAlike 42 = .ok (.if_icmp .ne 7, 3) := by decide +kernel
theorem d268_45 : decode cX9_isAlike 45 = .ok (.iconst 1, 1) := by decide +kernel
theorem d268_46 : decode cX9_isAlike 46 = .ok (.goto 4, 3) := by decide +kernel
theorem d268_49 : decode cX9_isAlike 49 = .ok (.iconst 0, 1) := by decide +kernel
theorem d268_50 : decode cX9_isAlike 50 = .ok (.ireturn, 1) := by decide +kernel
theorem v268_0 {w : PW} {Q : PO → PW → Prop} {x1 : Int} {x2 : Int} (hs : Sh w) (hx1 : bd x1) (hx2 : bd x2) (h : (0 ≤ (71 + 3 * x1) + 0 ∧ (71 + 3 * x1) + 0 < 843) ∧ (0 ≤ (71 + 3 * x2) + 0 ∧ (71 + 3 * x2) + 0 < 843) ∧ ((gI w 170 ((71 + 3 * x1) + 0).toNat) ≠ (gI w 170 ((71 + 3 * x2) + 0).toNat) → Q (.inl (some (iv 0))) w) ∧ ((gI w 170 ((71 + 3 * x1) + 0).toNat) = (gI w 170 ((71 + 3 * x2) + 0).toNat) → (0 ≤ (71 + 3 * x1) + 1 ∧ (71 + 3 * x1) + 1 < 843) ∧ (0 ≤ (71 + 3 * x2) + 1 ∧ (71 + 3 * x2) + 1 < 843) ∧ ((gI w 170 ((71 + 3 * x1) + 1).toNat) ≠ (gI w 170 ((71 + 3 * x2) + 1).toNat) → Q (.inl (some (iv 0))) w) ∧ ((gI w 170 ((71 + 3 * x1) + 1).toNat) = (gI w 170 ((71 + 3 * x2) + 1).toNat) → (0 ≤ (71 + 3 * x1) + 2 ∧ (71 + 3 * x1) + 2 < 843) ∧ (0 ≤ (71 + 3 * x2) + 2 ∧ (71 + 3 * x2) + 2 < 843) ∧ ((gI w 170 ((71 + 3 * x1) + 2).toNat) ≠ (gI w 170 ((71 + 3 * x2) + 2).toNat) → Q (.inl (some (iv 0))) w) ∧ ((gI w 170 ((71 + 3 * x1) + 2).toNat) = (gI w 170 ((71 + 3 * x2) + 2).toNat) → Q (.inl (some (iv 1))) w)))) : pX 268 0 [some (.ref 169), some (iv x1), some (iv x2)] [] w Q :=
  w_f b268 d268_0 rfl rfl rfl <| w_f b268 d268_1 rfl rfl rfl <| w_f b268 d268_2 rfl rfl rfl <| w_cc b268 d268_3 rfl (pcl_v (n := 2) rfl rfl rfl (by decide +kernel) (sh_isOb hs (tlt 169 rfl) tbC_169) rfl rfl) rfl <| c267 hs hx1 ⟨by decide, by decide⟩ h.1 <| w_f b268 d268_6 rfl rfl rfl <| w_f b268 d268_7 rfl rfl rfl <| w_f b268 d268_8 rfl rfl rfl <| w_cc b268 d268_9 rfl (pcl_v (n := 2) rfl rfl rfl (by decide +kernel) (sh_isOb hs (tlt 169 rfl) tbC_169) rfl rfl) rfl <| c267 hs hx2 ⟨by decide, by decide⟩ h.2.1 <| w_icne b268 d268_12 rfl rfl (p268 _ _) (bd_gI _ _ _) (bd_gI _ _ _) (fun c1 => w_f b268 d268_49 rfl rfl rfl <| w_rz b268 d268_50 r268 (by decide) (h.2.2.1 c1)) (fun c1 => w_f b268 d268_15 rfl rfl rfl <| w_f b268 d268_16 rfl rfl rfl <| w_f b268 d268_17 rfl rfl rfl <| w_cc b268 d268_18 rfl (pcl_v (n := 2) rfl rfl rfl (by decide +kernel) (sh_isOb hs (tlt 169 rfl) tbC_169) rfl rfl) rfl <| c267 hs hx1 ⟨by decide, by decide⟩ (h.2.2.2 c1).1 <| w_f b268 d268_21 rfl rfl rfl <| w_f b268 d268_22 rfl rfl rfl <| w_f b268 d268_23 rfl rfl rfl <| w_cc b268 d268_24 rfl (pcl_v (n := 2) rfl rfl rfl (by decide +kernel) (sh_isOb hs (tlt 169 rfl) tbC_169) rfl rfl) rfl <| c267 hs hx2 ⟨by decide, by decide⟩ (h.2.2.2 c1).2.1 <| w_icne b268 d268_27 rfl rfl (p268 _ _) (bd_gI _ _ _) (bd_gI _ _ _) (fun c2 => w_f b268 d268_49 rfl rfl rfl <| w_rz b268 d268_50 r268 (by decide) ((h.2.2.2 c1).2.2.1 c2)) (fun c2 => w_f b268 d268_30 rfl rfl rfl <| w_f b268 d268_31 rfl rfl rfl <| w_f b268 d268_32 rfl rfl rfl <| w_cc b268 d268_33 rfl (pcl_v (n := 2) rfl rfl rfl (by decide +kernel) (sh_isOb hs (tlt 169 rfl) tbC_169) rfl rfl) rfl <| c267 hs hx1 ⟨by decide, by decide⟩ ((h.2.2.2 c1).2.2.2 c2).1 <| w_f b268 d268_36 rfl rfl rfl <| w_f b268 d268_37 rfl rfl rfl <| w_f b268 d268_38 rfl rfl rfl <| w_cc b268 d268_39 rfl (pcl_v (n := 2) rfl rfl rfl (by decide +kernel) (sh_isOb hs (tlt 169 rfl) tbC_169) rfl rfl) rfl <| c267 hs hx2 ⟨by decide, by decide⟩ ((h.2.2.2 c1).2.2.2 c2).2.1 <| w_icne b268 d268_42 rfl rfl (p268 _ _) (bd_gI _ _ _) (bd_gI _ _ _) (fun c3 => w_f b268 d268_49 rfl rfl rfl <| w_rz b268 d268_50 r268 (by decide) (((h.2.2.2 c1).2.2.2 c2).2.2.1 c3)) (fun c3 => w_f b268 d268_45 rfl rfl rfl <| w_j b268 d268_46 rfl (p268 _ _) <| w_rz b268 d268_50 r268 (by decide) (((h.2.2.2 c1).2.2.2 c2).2.2.2 c3))))
theorem e268 {w : PW} {Q : PO → PW → Prop} {x1 : Int} {x2 : Int} (hs : Sh w) (hx1 : bd x1) (hx2 : bd x2) (h : (0 ≤ (71 + 3 * x1) + 0 ∧ (71 + 3 * x1) + 0 < 843) ∧ (0 ≤ (71 + 3 * x2) + 0 ∧ (71 + 3 * x2) + 0 < 843) ∧ ((gI w 170 ((71 + 3 * x1) + 0).toNat) ≠ (gI w 170 ((71 + 3 * x2) + 0).toNat) → Q (.inl (some (iv 0))) w) ∧ ((gI w 170 ((71 + 3 * x1) + 0).toNat) = (gI w 170 ((71 + 3 * x2) + 0).toNat) → (0 ≤ (71 + 3 * x1) + 1 ∧ (71 + 3 * x1) + 1 < 843) ∧ (0 ≤ (71 + 3 * x2) + 1 ∧ (71 + 3 * x2) + 1 < 843) ∧ ((gI w 170 ((71 + 3 * x1) + 1).toNat) ≠ (gI w 170 ((71 + 3 * x2) + 1).toNat) → Q (.inl (some (iv 0))) w) ∧ ((gI w 170 ((71 + 3 * x1) + 1).toNat) = (gI w 170 ((71 + 3 * x2) + 1).toNat) → (0 ≤ (71 + 3 * x1) + 2 ∧ (71 + 3 * x1) + 2 < 843) ∧ (0 ≤ (71 + 3 * x2) + 2 ∧ (71 + 3 * x2) + 2 < 843) ∧ ((gI w 170 ((71 + 3 * x1) + 2).toNat) ≠ (gI w 170 ((71 + 3 * x2) + 2).toNat) → Q (.inl (some (iv 0))) w) ∧ ((gI w 170 ((71 + 3 * x1) + 2).toNat) = (gI w 170 ((71 + 3 * x2) + 2).toNat) → Q (.inl (some (iv 1))) w)))) : pC 268 [.ref 169, iv x1, iv x2] w Q :=
  (pC_in (Nat.le_of_ble_eq_true rfl) rfl Q).mpr (v268_0 hs hx1 hx2 h)
section MRN
variable {w : PW} {m : Row} {i : Nat}
theorem MR.N0 (hM : MR w m) (hi : i < 60) : gI w 170 ((71 + 3 * (i : Int)) + 0).toNat = rN m i 0 := hM.i (x := (71 + 3 * (i : Int)) + 0) (n := 71 + 3 * i + 0) rfl (by omega)
theorem MR.N1 (hM : MR w m) (hi : i < 60) : gI w 170 ((71 + 3 * (i : Int)) + 1).toNat = rN m i 1 := hM.i (x := (71 + 3 * (i : Int)) + 1) (n := 71 + 3 * i + 1) rfl (by omega)
theorem MR.N2 (hM : MR w m) (hi : i < 60) : gI w 170 ((71 + 3 * (i : Int)) + 2).toNat = rN m i 2 := hM.i (x := (71 + 3 * (i : Int)) + 2) (n := 71 + 3 * i + 2) rfl (by omega)
theorem MR.T0 (hM : MR w m) (hi : i < 12) : gI w 170 ((11 + 5 * (i : Int)) + 0).toNat = rT m i 0 := hM.i (x := (11 + 5 * (i : Int)) + 0) (n := 11 + 5 * i + 0) rfl (by omega)
theorem MR.T1 (hM : MR w m) (hi : i < 12) : gI w 170 ((11 + 5 * (i : Int)) + 1).toNat = rT m i 1 := hM.i (x := (11 + 5 * (i : Int)) + 1) (n := 11 + 5 * i + 1) rfl (by omega)
theorem MR.T2 (hM : MR w m) (hi : i < 12) : gI w 170 ((11 + 5 * (i : Int)) + 2).toNat = rT m i 2 := hM.i (x := (11 + 5 * (i : Int)) + 2) (n := 11 + 5 * i + 2) rfl (by omega)
theorem MR.T3 (hM : MR w m) (hi : i < 12) : gI w 170 ((11 + 5 * (i : Int)) + 3).toNat = rT m i 3 := hM.i (x := (11 + 5 * (i : Int)) + 3) (n := 11 + 5 * i + 3) rfl (by omega)
theorem MR.T4 (hM : MR w m) (hi : i < 12) : gI w 170 ((11 + 5 * (i : Int)) + 4).toNat = rT m i 4 := hM.i (x := (11 + 5 * (i : Int)) + 4) (n := 11 + 5 * i + 4) rfl (by omega)
end MRN
theorem l287_4 {w : PW} {Q : PO → PW → Prop} {m : Row} {x1 : Int} (hs : Sh w) (hM : MR w m) (hx : bd x1) (h : Q (.inl (some (iv (sNotes m x1 : Nat)))) w) : ∀ k i : Nat, i + k = (m 5).toNat → pX 287 4 [some (.ref 169), some (iv x1), some (iv (cnt (fun z => decide (rN m z 0 = x1)) i : Nat)), some (iv (i : Nat))] [] w Q := by
  have h5 := hM.ok.n
  intro k
  induction k with
  | zero =>
    intro i hi 
    have hc := cnt_le (fun z => decide (rN m z 0 = x1)) i
    refine v287_4 hs hx (bdk (by omega)) (bdk (by omega)) ?_
    rw [hM.g (k := 5) rfl]
    refine ⟨fun _ => ?_, fun q => by omega⟩
    unfold sNotes at h
    rw [show (m 5).toNat = i from by omega] at h
    exact h
  | succ k ih =>
    intro i hi 
    have hc := cnt_le (fun z => decide (rN m z 0 = x1)) i
    have := ih (i + 1) (by omega)
    refine v287_4 hs hx (bdk (by omega)) (bdk (by omega)) ?_
    rw [hM.g (k := 5) rfl, hM.N0 (by omega)]
    refine ⟨fun q => by omega, fun _ => ⟨⟨by omega, by omega⟩, fun q => ?_, fun q => ?_⟩⟩
    · rw [cnt_f (decide_eq_false q)] at this
      exact this
    · rw [cnt_t (decide_eq_true q)] at this
      exact this
theorem c287 {w : PW} {Q : PO → PW → Prop} {m : Row} {x1 : Int} (hs : Sh w) (hM : MR w m) (hx : bd x1) (h : Q (.inl (some (iv (sNotes m x1 : Nat)))) w) : pC 287 [.ref 169, iv x1] w Q :=
  e287 hs hx (l287_4 hs hM hx h _ 0 (Nat.zero_add _))
theorem c268 {w : PW} {Q : PO → PW → Prop} {m : Row} {x y : Nat} (hs : Sh w) (hM : MR w m) (hx : x < 60) (hy : y < 60) (h : Q (.inl (some (iv (if rN m x 0 = rN m y 0 ∧ rN m x 1 = rN m y 1 ∧ rN m x 2 = rN m y 2 then 1 else 0)))) w) : pC 268 [.ref 169, iv (x : Nat), iv (y : Nat)] w Q := by
  refine e268 hs (bdk (by omega)) (bdk (by omega)) ?_
  rw [hM.N0 hx, hM.N0 hy, hM.N1 hx, hM.N1 hy, hM.N2 hx, hM.N2 hy]
  refine ⟨⟨by omega, by omega⟩, ⟨by omega, by omega⟩, fun q => ?_, fun q => ⟨⟨by omega, by omega⟩, ⟨by omega, by omega⟩, fun q2 => ?_, fun q2 => ⟨⟨by omega, by omega⟩, ⟨by omega, by omega⟩, fun q3 => ?_, fun q3 => ?_⟩⟩⟩
  · rw [if_neg (fun z => q z.1)] at h; exact h
  · rw [if_neg (fun z => q2 z.2.1)] at h; exact h
  · rw [if_neg (fun z => q3 z.2.2)] at h; exact h
  · rw [if_pos ⟨q, q2, q3⟩] at h; exact h
/-! 269: PinBarrelModel.playedBy(I)I -/
theorem b269 : mB 269 = cX9_playedBy := rfl
theorem r269 : mR 269 = (some .int) := rfl
theorem p269 (a b : Nat) : phi 269 a ≤ phi 269 b := Nat.le_refl 0
theorem d269_0 : decode cX9_playedBy 0 = .ok (.iconst 0, 1) := by decide +kernel
theorem d269_1 : decode cX9_playedBy 1 = .ok (.istore_n 2, 1) := by decide +kernel
theorem d269_2 : decode cX9_playedBy 2 = .ok (.iconst 0, 1) := by decide +kernel
theorem d269_3 : decode cX9_playedBy 3 = .ok (.istore_n 3, 1) := by decide +kernel
theorem d269_4 : decode cX9_playedBy 4 = .ok (.iload_n 3, 1) := by decide +kernel
theorem d269_5 : decode cX9_playedBy 5 = .ok (.iload_n 1, 1) := by decide +kernel
theorem d269_6 : decode cX9_playedBy 6 = .ok (.if_icmp .ge 26, 3) := by decide +kernel
theorem d269_9 : decode cX9_playedBy 9 = .ok (.iload_n 2, 1) := by decide +kernel
theorem d269_10 : decode cX9_playedBy 10 = .ok (.aload_n 0, 1) := by decide +kernel
theorem d269_11 : decode cX9_playedBy 11 = .ok (.iload_n 3, 1) := by decide +kernel
theorem d269_12 : decode cX9_playedBy 12 = .ok (.iload_n 1, 1) := by decide +kernel
theorem d269_13 : decode cX9_playedBy 13 = .ok (.invokevirtual 286, 3) := by decide +kernel
theorem d269_16 : decode cX9_playedBy 16 = .ok (.ifCond .eq 7, 3) := by decide +kernel
theorem d269_19 : decode cX9_playedBy 19 = .ok (.iconst 1, 1) := by decide +kernel
theorem d269_20 : decode cX9_playedBy 20 = .ok (.goto 4, 3) := by decide +kernel
theorem d269_23 : decode cX9_playedBy 23 = .ok (.iconst 0, 1) := by decide +kernel
theorem d269_24 : decode cX9_playedBy 24 = .ok (.iadd, 1) := by decide +kernel
theorem d269_25 : decode cX9_playedBy 25 = .ok (.istore_n 2, 1) := by decide +kernel
theorem d269_26 : decode cX9_playedBy 26 = .ok (.iinc 3 1, 3) := by decide +kernel
theorem d269_29 : decode cX9_playedBy 29 = .ok (.goto (-25), 3) := by decide +kernel
theorem d269_32 : decode cX9_playedBy 32 = .ok (.iconst 0, 1) := by decide +kernel
theorem d269_33 : decode cX9_playedBy 33 = .ok (.istore_n 3, 1) := by decide +kernel
theorem d269_34 : decode cX9_playedBy 34 = .ok (.iload_n 3, 1) := by decide +kernel
theorem d269_35 : decode cX9_playedBy 35 = .ok (.aload_n 0, 1) := by decide +kernel
theorem d269_36 : decode cX9_playedBy 36 = .ok (.getfield 9, 3) := by decide +kernel
theorem d269_39 : decode cX9_playedBy 39 = .ok (.iconst 4, 1) := by decide +kernel
theorem d269_40 : decode cX9_playedBy 40 = .ok (.iaload, 1) := by decide +kernel
theorem d269_41 : decode cX9_playedBy 41 = .ok (.if_icmp .ge 56, 3) := by decide +kernel
theorem d269_44 : decode cX9_playedBy 44 = .ok (.aload_n 0, 1) := by decide +kernel
theorem d269_45 : decode cX9_playedBy 45 = .ok (.iload_n 3, 1) := by decide +kernel
theorem d269_46 : decode cX9_playedBy 46 = .ok (.iconst 0, 1) := by decide +kernel
theorem d269_47 : decode cX9_playedBy 47 = .ok (.invokevirtual 219, 3) := by decide +kernel
theorem d269_50 : decode cX9_playedBy 50 = .ok (.aload_n 0, 1) := by decide +kernel
theorem d269_51 : decode cX9_playedBy 51 = .ok (.iload_n 1, 1) := by decide +kernel
theorem d269_52 : decode cX9_playedBy 52 = .ok (.iconst 2, 1) := by decide +kernel
theorem d269_53 : decode cX9_playedBy 53 = .ok (.invokevirtual 283, 3) := by decide +kernel
theorem d269_56 : decode cX9_playedBy 56 = .ok (.if_icmp .ne 35, 3) := by decide +kernel
theorem d269_59 : decode cX9_playedBy 59 = .ok (.aload_n 0, 1) := by decide +kernel
theorem d269_60 : decode cX9_playedBy 60 = .ok (.aload_n 0, 1) := by decide +kernel
theorem d269_61 : decode cX9_playedBy 61 = .ok (.iload_n 1, 1) := by decide +kernel
theorem d269_62 : decode cX9_playedBy 62 = .ok (.iconst 0, 1) := by decide +kernel
theorem d269_63 : decode cX9_playedBy 63 = .ok (.invokevirtual 283, 3) := by decide +kernel
theorem d269_66 : decode cX9_playedBy 66 = .ok (.aload_n 0, 1) := by decide +kernel
theorem d269_67 : decode cX9_playedBy 67 = .ok (.iload_n 1, 1) := by decide +kernel
theorem d269_68 : decode cX9_playedBy 68 = .ok (.iconst 1, 1) := by decide +kernel
theorem d269_69 : decode cX9_playedBy 69 = .ok (.invokevirtual 283, 3) := by decide +kernel
theorem d269_72 : decode cX9_playedBy 72 = .ok (.iload_n 3, 1) := by decide +kernel
theorem d269_73 : decode cX9_playedBy 73 = .ok (.invokevirtual 228, 3) := by decide +kernel
theorem d269_76 : decode cX9_playedBy 76 = .ok (.ifCond .ne 6, 3) := by decide +kernel
theorem d269_79 : decode cX9_playedBy 79 = .ok (.goto 12, 3) := by decide +kernel
theorem d269_82 : decode cX9_playedBy 82 = .ok (.iload_n 2, 1) := by decide +kernel
theorem d269_83 : decode cX9_playedBy 83 = .ok (.ifCond .ne 5, 3) := by decide +kernel
theorem d269_86 : decode cX9_playedBy 86 = .ok (.iload_n 3, 1) := by decide +kernel
theorem d269_87 : decode cX9_playedBy 87 = .ok (.ireturn, 1) := by decide +kernel
theorem d269_88 : decode cX9_playedBy 88 = .ok (.iinc 2 (-1), 3) := by decide +kernel
theorem d269_91 : decode cX9_playedBy 91 = .ok (.iinc 3 1, 3) := by decide +kernel
theorem d269_94 : decode cX9_playedBy 94 = .ok (.goto (-60), 3) := by decide +kernel
theorem d269_97 : decode cX9_playedBy 97 = .ok (.iconst (-1), 1) := by decide +kernel
theorem d269_98 : decode cX9_playedBy 98 = .ok (.ireturn, 1) := by decide +kernel
theorem v269_0 {w : PW} {Q : PO → PW → Prop} {x1 : Int} (hs : Sh w) (hx1 : bd x1) (h : pX 269 4 [some (.ref 169), some (iv x1), some (iv 0), some (iv 0)] [] w Q) : pX 269 0 [some (.ref 169), some (iv x1), none, none] [] w Q :=
  w_f b269 d269_0 rfl rfl rfl <| w_f b269 d269_1 rfl rfl rfl <| w_f b269 d269_2 rfl rfl rfl <| w_f b269 d269_3 rfl rfl rfl <| h
theorem e269 {w : PW} {Q : PO → PW → Prop} {x1 : Int} (hs : Sh w) (hx1 : bd x1) (h : pX 269 4 [some (.ref 169), some (iv x1), some (iv 0), some (iv 0)] [] w Q) : pC 269 [.ref 169, iv x1] w Q :=
  (pC_in (Nat.le_of_ble_eq_true rfl) rfl Q).mpr (v269_0 hs hx1 h)
theorem v269_4 {w : PW} {Q : PO → PW → Prop} {x1 : Int} {x2 : Int} {x3 : Int} (hs : Sh w) (hx1 : bd x1) (hx2 : bd x2) (hx3 : bd x3) (h : (x1 ≤ x3 → pX 269 34 [some (.ref 169), some (iv x1), some (iv x2), some (iv 0)] [] w Q) ∧ (x3 < x1 → pC 268 [.ref 169, iv x3, iv x1] w (kI fun u3 w2 => Sh w2 ∧ (u3 = 0 → pX 269 4 [some (.ref 169), some (iv x1), some (iv (x2 + 0)), some (iv (x3 + 1))] [] w2 Q) ∧ (u3 ≠ 0 → pX 269 4 [some (.ref 169), some (iv x1), some (iv (x2 + 1)), some (iv (x3 + 1))] [] w2 Q)))) : pX 269 4 [some (.ref 169), some (iv x1), some (iv x2), some (iv x3)] [] w Q :=
  w_f b269 d269_4 rfl rfl rfl <| w_f b269 d269_5 rfl rfl rfl <| w_icge b269 d269_6 rfl rfl (p269 _ _) hx3 hx1 (fun c1 => w_f b269 d269_32 rfl rfl rfl <| w_f b269 d269_33 rfl rfl rfl <| (h.1 c1)) (fun c1 => w_f b269 d269_9 rfl rfl rfl <| w_f b269 d269_10 rfl rfl rfl <| w_f b269 d269_11 rfl rfl rfl <| w_f b269 d269_12 rfl rfl rfl <| w_c b269 d269_13 rfl (pcl_v (n := 2) rfl rfl rfl (by decide +kernel) (sh_isOb hs (tlt 169 rfl) tbC_169) rfl rfl) rfl _ (hK_I fun u3 w2 hbu3 hkw2 => w_ifeq b269 d269_16 rfl rfl (p269 _ _) hbu3 (fun c4 => w_f b269 d269_23 rfl rfl rfl <| w_f b269 d269_24 rfl (pf_iadd x2 0) rfl <| w_f b269 d269_25 rfl rfl rfl <| w_f b269 d269_26 rfl (pf_iinc rfl rfl) rfl <| w_j b269 d269_29 rfl (p269 _ _) <| (hkw2.2.1 c4)) (fun c4 => w_f b269 d269_19 rfl rfl rfl <| w_j b269 d269_20 rfl (p269 _ _) <| w_f b269 d269_24 rfl (pf_iadd x2 1) rfl <| w_f b269 d269_25 rfl rfl rfl <| w_f b269 d269_26 rfl (pf_iinc rfl rfl) rfl <| w_j b269 d269_29 rfl (p269 _ _) <| (hkw2.2.2 c4))) (h.2 c1))
theorem v269_34 {w : PW} {Q : PO → PW → Prop} {x1 : Int} {x2 : Int} {x3 : Int} (hs : Sh w) (hx1 : bd x1) (hx2 : bd x2) (hx3 : bd x3) (h : ((gI w 170 4) ≤ x3 → Q (.inl (some (iv ((-1))))) w) ∧ (x3 < (gI w 170 4) → (0 ≤ (11 + 5 * x3) + 0 ∧ (11 + 5 * x3) + 0 < 843) ∧ (0 ≤ (71 + 3 * x1) + 2 ∧ (71 + 3 * x1) + 2 < 843) ∧ ((gI w 170 ((11 + 5 * x3) + 0).toNat) ≠ (gI w 170 ((71 + 3 * x1) + 2).toNat) → pX 269 34 [some (.ref 169), some (iv x1), some (iv x2), some (iv (x3 + 1))] [] w Q) ∧ ((gI w 170 ((11 + 5 * x3) + 0).toNat) = (gI w 170 ((71 + 3 * x1) + 2).toNat) → (0 ≤ (71 + 3 * x1) + 0 ∧ (71 + 3 * x1) + 0 < 843) ∧ (0 ≤ (71 + 3 * x1) + 1 ∧ (71 + 3 * x1) + 1 < 843) ∧ (bd ((251 + 64 * (gI w 170 ((71 + 3 * x1) + 0).toNat)) + (gI w 170 ((71 + 3 * x1) + 1).toNat))) ∧ (0 ≤ (251 + 64 * (gI w 170 ((71 + 3 * x1) + 0).toNat)) + (gI w 170 ((71 + 3 * x1) + 1).toNat) ∧ (251 + 64 * (gI w 170 ((71 + 3 * x1) + 0).toNat)) + (gI w 170 ((71 + 3 * x1) + 1).toNat) < 843) ∧ (0 ≤ x3 ∧ x3 < 32) ∧ ((tI (gI w 170 ((251 + 64 * (gI w 170 ((71 + 3 * x1) + 0).toNat)) + (gI w 170 ((71 + 3 * x1) + 1).toNat)).toNat) (x3).toNat = true) → (x2 ≠ 0 → pX 269 34 [some (.ref 169), some (iv x1), some (iv (x2 + (-1))), some (iv (x3 + 1))] [] w Q) ∧ (x2 = 0 → Q (.inl (some (iv x3))) w)) ∧ ((¬ (tI (gI w 170 ((251 + 64 * (gI w 170 ((71 + 3 * x1) + 0).toNat)) + (gI w 170 ((71 + 3 * x1) + 1).toNat)).toNat) (x3).toNat = true)) → pX 269 34 [some (.ref 169), some (iv x1), some (iv x2), some (iv (x3 + 1))] [] w Q)))) : pX 269 34 [some (.ref 169), some (iv x1), some (iv x2), some (iv x3)] [] w Q :=
  w_f b269 d269_34 rfl rfl rfl <| w_f b269 d269_35 rfl rfl rfl <| w_gr b269 d269_36 rfl rfl hs (tlt 169 rfl) tbC_169 rfl (by decide) <| w_f b269 d269_39 rfl rfl rfl <| w_ial b269 d269_40 rfl hs (tlt 170 rfl) tbC_170 (bdix (n := 843) ⟨by decide, by decide⟩ rfl) ⟨by decide, by decide⟩ <| w_icge b269 d269_41 rfl rfl (p269 _ _) hx3 (bd_gI _ _ _) (fun c1 => w_f b269 d269_97 rfl rfl rfl <| w_ri b269 d269_98 r269 (h.1 c1)) (fun c1 => w_f b269 d269_44 rfl rfl rfl <| w_f b269 d269_45 rfl rfl rfl <| w_f b269 d269_46 rfl rfl rfl <| w_cc b269 d269_47 rfl (pcl_v (n := 2) rfl rfl rfl (by decide +kernel) (sh_isOb hs (tlt 169 rfl) tbC_169) rfl rfl) rfl <| c261 hs hx3 ⟨by decide, by decide⟩ (h.2 c1).1 <| w_f b269 d269_50 rfl rfl rfl <| w_f b269 d269_51 rfl rfl rfl <| w_f b269 d269_52 rfl rfl rfl <| w_cc b269 d269_53 rfl (pcl_v (n := 2) rfl rfl rfl (by decide +kernel) (sh_isOb hs (tlt 169 rfl) tbC_169) rfl rfl) rfl <| c267 hs hx1 ⟨by decide, by decide⟩ (h.2 c1).2.1 <| w_icne b269 d269_56 rfl rfl (p269 _ _) (bd_gI _ _ _) (bd_gI _ _ _) (fun c2 => w_f b269 d269_91 rfl (pf_iinc rfl rfl) rfl <| w_j b269 d269_94 rfl (p269 _ _) <| ((h.2 c1).2.2.1 c2)) (fun c2 => w_f b269 d269_59 rfl rfl rfl <| w_f b269 d269_60 rfl rfl rfl <| w_f b269 d269_61 rfl rfl rfl <| w_f b269 d269_62 rfl rfl rfl <| w_cc b269 d269_63 rfl (pcl_v (n := 2) rfl rfl rfl (by decide +kernel) (sh_isOb hs (tlt 169 rfl) tbC_169) rfl rfl) rfl <| c267 hs hx1 ⟨by decide, by decide⟩ ((h.2 c1).2.2.2 c2).1 <| w_f b269 d269_66 rfl rfl rfl <| w_f b269 d269_67 rfl rfl rfl <| w_f b269 d269_68 rfl rfl rfl <| w_cc b269 d269_69 rfl (pcl_v (n := 2) rfl rfl rfl (by decide +kernel) (sh_isOb hs (tlt 169 rfl) tbC_169) rfl rfl) rfl <| c267 hs hx1 ⟨by decide, by decide⟩ ((h.2 c1).2.2.2 c2).2.1 <| w_f b269 d269_72 rfl rfl rfl <| w_cc b269 d269_73 rfl (pcl_v (n := 3) rfl rfl rfl (by decide +kernel) (sh_isOb hs (tlt 169 rfl) tbC_169) rfl rfl) rfl <| c251 hs (bd_gI _ _ _) (bd_gI _ _ _) hx3 ((h.2 c1).2.2.2 c2).2.2.1 ((h.2 c1).2.2.2 c2).2.2.2.1 ((h.2 c1).2.2.2 c2).2.2.2.2.1 <| w_ifneZ b269 d269_76 rfl rfl (p269 _ _) (fun c3 => w_f b269 d269_82 rfl rfl rfl <| w_ifne b269 d269_83 rfl rfl (p269 _ _) hx2 (fun c4 => w_f b269 d269_88 rfl (pf_iinc rfl rfl) rfl <| w_f b269 d269_91 rfl (pf_iinc rfl rfl) rfl <| w_j b269 d269_94 rfl (p269 _ _) <| ((((h.2 c1).2.2.2 c2).2.2.2.2.2.1 c3).1 c4)) (fun c4 => w_f b269 d269_86 rfl rfl rfl <| w_ri b269 d269_87 r269 ((((h.2 c1).2.2.2 c2).2.2.2.2.2.1 c3).2 c4))) (fun c3 => w_j b269 d269_79 rfl (p269 _ _) <| w_f b269 d269_91 rfl (pf_iinc rfl rfl) rfl <| w_j b269 d269_94 rfl (p269 _ _) <| (((h.2 c1).2.2.2 c2).2.2.2.2.2.2 c3))))
theorem l269_34 {w : PW} {Q : PO → PW → Prop} {x : Nat} {m : Row} (hs : Sh w) (hM : MR w m) (hx : (x : Int) < m 5) (h : Q (.inl (some (iv (sPlay m x)))) w) : ∀ k i : Nat, i + k = (m 4).toNat → ((cnt (sPlayP m x) i : Nat) : Int) ≤ (sLike m x : Nat) → pX 269 34 [some (.ref 169), some (iv (x : Nat)), some (iv ((sLike m x : Nat) - (cnt (sPlayP m x) i : Nat) : Int)), some (iv (i : Nat))] [] w Q := by
  have h0 := hM.ok.s
  have h1 := hM.ok.u
  have h4 := hM.ok.t
  have h5 := hM.ok.n
  have g := hM.ok.N hx
  have hl : sLike m x ≤ x := cnt_le _ _
  intro k
  induction k with
  | zero =>
    intro i hi hinv
    have hc := cnt_le (sPlayP m x) i
    refine v269_34 hs (bdk (by omega)) ⟨by omega, by omega⟩ (bdk (by omega)) ?_
    rw [hM.g (k := 4) rfl]
    refine ⟨fun _ => ?_, fun q => by omega⟩
    unfold sPlay at h
    rw [sel_no (by rw [show (m 4).toNat = i from by omega]; omega)] at h
    exact h
  | succ k ih =>
    intro i hi hinv
    have hc := cnt_le (sPlayP m x) i
    have hF : sPlayP m x i = false → _ := fun q => by
      have := ih (i + 1) (by omega)
      rw [cnt_f q] at this
      exact this hinv
    have ep : gI w 170 ((251 + 64 * rN m x 0) + rN m x 1).toNat = m (251 + 64 * (rN m x 0).toNat + (rN m x 1).toNat) := hM.i (x := (251 + 64 * rN m x 0) + rN m x 1) (by omega) (by omega)
    refine v269_34 hs (bdk (by omega)) ⟨by omega, by omega⟩ (bdk (by omega)) ?_
    rw [hM.g (k := 4) rfl, hM.T0 (by omega), hM.N0 (by omega), hM.N1 (by omega), hM.N2 (by omega), ep, Int.toNat_natCast]
    refine ⟨fun q => by omega, fun _ => ⟨⟨by omega, by omega⟩, ⟨by omega, by omega⟩, fun q => hF ?_, fun q => ⟨⟨by omega, by omega⟩, ⟨by omega, by omega⟩, ⟨by omega, by omega⟩, ⟨by omega, by omega⟩, ⟨by omega, by omega⟩, fun q2 => ⟨fun q3 => ?_, fun q3 => ?_⟩, fun q2 => hF ?_⟩⟩⟩
    · unfold sPlayP
      rw [decide_eq_false q, Bool.false_and]
    · have ht : sPlayP m x i = true := by unfold sPlayP; rw [decide_eq_true q, Bool.true_and]; exact q2
      have := ih (i + 1) (by omega)
      rw [cnt_t ht] at this
      rw [show ((sLike m x : Nat) - (cnt (sPlayP m x) i : Nat) : Int) + (-1) = ((sLike m x : Nat) - ((cnt (sPlayP m x) i + 1 : Nat) : Int)) from by omega]
      exact this (by omega)
    · have ht : sPlayP m x i = true := by unfold sPlayP; rw [decide_eq_true q, Bool.true_and]; exact q2
      unfold sPlay at h
      rw [sel_at (i := i) (by omega) ht (by omega)] at h
      exact h
    · unfold sPlayP
      rw [show rPin m (rN m x 0).toNat (rN m x 1).toNat i = false from Bool.eq_false_iff.mpr q2, Bool.and_false]
theorem l269_4 {w : PW} {Q : PO → PW → Prop} {x : Nat} {m : Row} (hs : Sh w) (hM : MR w m) (hx : (x : Int) < m 5) (h : Q (.inl (some (iv (sPlay m x)))) w) : ∀ k i : Nat, i + k = x → pX 269 4 [some (.ref 169), some (iv (x : Nat)), some (iv (cnt (fun z => decide (rN m z 0 = rN m x 0 ∧ rN m z 1 = rN m x 1 ∧ rN m z 2 = rN m x 2)) i : Nat)), some (iv (i : Nat))] [] w Q := by
  have h5 := hM.ok.n
  intro k
  induction k with
  | zero =>
    intro i hi 
    have hc := cnt_le (fun z => decide (rN m z 0 = rN m x 0 ∧ rN m z 1 = rN m x 1 ∧ rN m z 2 = rN m x 2)) i
    refine v269_4 hs (bdk (by omega)) (bdk (by omega)) (bdk (by omega)) ⟨fun _ => ?_, fun q => by omega⟩
    have := l269_34 hs hM hx h (m 4).toNat 0 (Nat.zero_add _) (by show (0 : Int) ≤ _; omega)
    rw [show ((sLike m x : Nat) - (cnt (sPlayP m x) 0 : Nat) : Int) = (sLike m x : Nat) from by show ((sLike m x : Nat) : Int) - 0 = _; omega] at this
    have e : i = x := by omega
    rw [e]
    exact this
  | succ k ih =>
    intro i hi 
    have hc := cnt_le (fun z => decide (rN m z 0 = rN m x 0 ∧ rN m z 1 = rN m x 1 ∧ rN m z 2 = rN m x 2)) i
    have := ih (i + 1) (by omega)
    refine v269_4 hs (bdk (by omega)) (bdk (by omega)) (bdk (by omega)) ⟨fun q => by omega, fun _ => c268 hs hM (by omega) (by omega) ?_⟩
    by_cases q : rN m i 0 = rN m x 0 ∧ rN m i 1 = rN m x 1 ∧ rN m i 2 = rN m x 2
    · rw [if_pos q]
      rw [cnt_t (decide_eq_true q)] at this
      exact kI_iv ⟨by decide, by decide⟩ ⟨hs, fun z => absurd z (by decide), fun _ => this⟩
    · rw [if_neg q]
      rw [cnt_f (decide_eq_false q)] at this
      exact kI_iv bd0 ⟨hs, fun _ => this, fun z => absurd rfl z⟩
theorem c269 {w : PW} {Q : PO → PW → Prop} {m : Row} {x : Nat} (hs : Sh w) (hM : MR w m) (hx : (x : Int) < m 5) (h : Q (.inl (some (iv (sPlay m x)))) w) : pC 269 [.ref 169, iv (x : Nat)] w Q := by
  have h5 := hM.ok.n
  exact e269 hs (bdk (by omega)) (l269_4 hs hM hx h x 0 (Nat.zero_add _))
