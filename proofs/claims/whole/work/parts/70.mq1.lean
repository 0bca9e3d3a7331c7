/-! THE MODEL's FACE: questions -/
/-! 274: PinBarrelModel.hasPin(III)Z -/
theorem b274 : mB 274 = cX9_hasPin := rfl
theorem r274 : mR 274 = (some .boolean) := rfl
theorem p274 (a b : Nat) : phi 274 a ≤ phi 274 b := Nat.le_refl 0
theorem d274_0 : decode cX9_hasPin 0 = .ok (.aload_n 0, 1) := by decide +kernel
theorem d274_1 : decode cX9_hasPin 1 = .ok (.iload_n 1, 1) := by decide +kernel
theorem d274_2 : decode cX9_hasPin 2 = .ok (.iload_n 2, 1) := by decide +kernel
theorem d274_3 : decode cX9_hasPin 3 = .ok (.invokevirtual 374, 3) := by decide +kernel
theorem d274_6 : decode cX9_hasPin 6 = .ok (.ifCond .ne 38, 3) := by decide +kernel
theorem d274_9 : decode cX9_hasPin 9 = .ok (.aload_n 0, 1) := by decide +kernel
theorem d274_10 : decode cX9_hasPin 10 = .ok (.aload_n 0, 1) := by decide +kernel
theorem d274_11 : decode cX9_hasPin 11 = .ok (.iload_n 3, 1) := by decide +kernel
theorem d274_12 : decode cX9_hasPin 12 = .ok (.invokevirtual 343, 3) := by decide +kernel
theorem d274_15 : decode cX9_hasPin 15 = .ok (.ifCond .ne 7, 3) := by decide +kernel
theorem d274_18 : decode cX9_hasPin 18 = .ok (.iconst 1, 1) := by decide +kernel
theorem d274_19 : decode cX9_hasPin 19 = .ok (.goto 4, 3) := by decide +kernel
theorem d274_22 : decode cX9_hasPin 22 = .ok (.iconst 0, 1) := by decide +kernel
theorem d274_23 : decode cX9_hasPin 23 = .ok (.iconst 2, 1) := by decide +kernel
theorem d274_24 : decode cX9_hasPin 24 = .ok (.invokevirtual 356, 3) := by decide +kernel
theorem d274_27 : decode cX9_hasPin 27 = .ok (.ifCond .ne 17, 3) := by decide +kernel
theorem d274_30 : decode cX9_hasPin 30 = .ok (.aload_n 0, 1) := by decide +kernel
theorem d274_31 : decode cX9_hasPin 31 = .ok (.iload_n 1, 1) := by decide +kernel
theorem d274_32 : decode cX9_hasPin 32 = .ok (.iload_n 2, 1) := by decide +kernel
theorem d274_33 : decode cX9_hasPin 33 = .ok (.iload_n 3, 1) := by decide +kernel
theorem d274_34 : decode cX9_hasPin 34 = .ok (.invokevirtual 228, 3) := by decide +kernel
theorem d274_37 : decode cX9_hasPin 37 = .ok (.ifCond .eq 7, 3) := by decide +kernel
theorem d274_40 : decode cX9_hasPin 40 = .ok (.iconst 1, 1) := by decide +kernel
theorem d274_41 : decode cX9_hasPin 41 = .ok (.goto 4, 3) := by decide +kernel
theorem d274_44 : decode cX9_hasPin 44 = .ok (.iconst 0, 1) := by decide +kernel
theorem d274_45 : decode cX9_hasPin 45 = .ok (.ireturn, 1) := by decide +kernel
theorem v274_0 {w : PW} {Q : PO → PW → Prop} {x1 : Int} {x2 : Int} {x3 : Int} (hs : Sh w) (hx1 : bd x1) (hx2 : bd x2) (hx3 : bd x3) (h : (bd ((gI w 170 1) - 1)) ∧ (bd ((gI w 170 0) - 1)) ∧ (((0 ≤ x1 ∧ x1 < gI w 170 1) ∧ (0 ≤ x2 ∧ x2 < gI w 170 0)) → ∀ w2 : PW, w2 = sI w 169 0 0 → (bd ((gI w2 170 4) - 1)) ∧ ((0 ≤ x3 ∧ x3 < gI w2 170 4) → (bd ((251 + 64 * x1) + x2)) ∧ (0 ≤ (251 + 64 * x1) + x2 ∧ (251 + 64 * x1) + x2 < 843) ∧ (0 ≤ x3 ∧ x3 < 32) ∧ ((¬ (tI (gI w2 170 ((251 + 64 * x1) + x2).toNat) (x3).toNat = true)) → Q (.inl (some (iv 0))) w2) ∧ ((tI (gI w2 170 ((251 + 64 * x1) + x2).toNat) (x3).toNat = true) → Q (.inl (some (iv 1))) w2)) ∧ ((¬ (0 ≤ x3 ∧ x3 < gI w2 170 4)) → ∀ w5 : PW, w5 = sI w2 169 0 2 → Q (.inl (some (iv 0))) w5)) ∧ ((¬ ((0 ≤ x1 ∧ x1 < gI w 170 1) ∧ (0 ≤ x2 ∧ x2 < gI w 170 0))) → ∀ w7 : PW, w7 = sI w 169 0 1 → Q (.inl (some (iv 0))) w7)) : pX 274 0 [some (.ref 169), some (iv x1), some (iv x2), some (iv x3)] [] w Q :=
  w_f b274 d274_0 rfl rfl rfl <| w_f b274 d274_1 rfl rfl rfl <| w_f b274 d274_2 rfl rfl rfl <| w_cc b274 d274_3 rfl (pcl_v (n := 2) rfl rfl rfl (by decide +kernel) (sh_isOb hs (tlt 169 rfl) tbC_169) rfl rfl) rfl <| c273 hs hx1 hx2 h.1 h.2.1 (fun c1 => w_ifne b274 d274_6 rfl rfl (p274 _ _) ⟨by decide, by decide⟩ (fun c => absurd c (by decide)) (fun _ => w_f b274 d274_9 rfl rfl rfl <| w_f b274 d274_10 rfl rfl rfl <| w_f b274 d274_11 rfl rfl rfl <| w_cc b274 d274_12 rfl (pcl_v (n := 1) rfl rfl rfl (by decide +kernel) (sh_isOb (Sh_sI hs (slt_o tbC_169 rfl)) (tlt 169 rfl) tbC_169) rfl rfl) rfl <| c258 (Sh_sI hs (slt_o tbC_169 rfl)) hx3 (h.2.2.1 c1 _ rfl).1 <| w_ifneZ b274 d274_15 rfl rfl (p274 _ _) (fun c3 => w_f b274 d274_22 rfl rfl rfl <| w_f b274 d274_23 rfl rfl rfl <| w_cc b274 d274_24 rfl (pcl_v (n := 2) rfl rfl rfl (by decide +kernel) (sh_isOb (Sh_sI hs (slt_o tbC_169 rfl)) (tlt 169 rfl) tbC_169) rfl rfl) rfl <| c260a (Sh_sI hs (slt_o tbC_169 rfl)) ⟨by decide, by decide⟩ ⟨by decide, by decide⟩ <| w_ifne b274 d274_27 rfl rfl (p274 _ _) ⟨by decide, by decide⟩ (fun c => absurd c (by decide)) (fun _ => w_f b274 d274_30 rfl rfl rfl <| w_f b274 d274_31 rfl rfl rfl <| w_f b274 d274_32 rfl rfl rfl <| w_f b274 d274_33 rfl rfl rfl <| w_cc b274 d274_34 rfl (pcl_v (n := 3) rfl rfl rfl (by decide +kernel) (sh_isOb (Sh_sI hs (slt_o tbC_169 rfl)) (tlt 169 rfl) tbC_169) rfl rfl) rfl <| c251 (Sh_sI hs (slt_o tbC_169 rfl)) hx1 hx2 hx3 ((h.2.2.1 c1 _ rfl).2.1 c3).1 ((h.2.2.1 c1 _ rfl).2.1 c3).2.1 ((h.2.2.1 c1 _ rfl).2.1 c3).2.2.1 <| w_ifeqZ b274 d274_37 rfl rfl (p274 _ _) (fun c4 => w_f b274 d274_44 rfl rfl rfl <| w_rz b274 d274_45 r274 (by decide) (((h.2.2.1 c1 _ rfl).2.1 c3).2.2.2.1 c4)) (fun c4 => w_f b274 d274_40 rfl rfl rfl <| w_j b274 d274_41 rfl (p274 _ _) <| w_rz b274 d274_45 r274 (by decide) (((h.2.2.1 c1 _ rfl).2.1 c3).2.2.2.2 c4)))) (fun c3 => w_f b274 d274_18 rfl rfl rfl <| w_j b274 d274_19 rfl (p274 _ _) <| w_f b274 d274_23 rfl rfl rfl <| w_cc b274 d274_24 rfl (pcl_v (n := 2) rfl rfl rfl (by decide +kernel) (sh_isOb (Sh_sI hs (slt_o tbC_169 rfl)) (tlt 169 rfl) tbC_169) rfl rfl) rfl <| c260b (Sh_sI hs (slt_o tbC_169 rfl)) ⟨by decide, by decide⟩ ⟨by decide, by decide⟩ <| w_ifne b274 d274_27 rfl rfl (p274 _ _) ⟨by decide, by decide⟩ (fun _ => w_f b274 d274_44 rfl rfl rfl <| w_rz b274 d274_45 r274 (by decide) (((h.2.2.1 c1 _ rfl).2.2 c3) _ rfl)) (fun c => absurd c (by decide))))) (fun c6 => w_ifne b274 d274_6 rfl rfl (p274 _ _) ⟨by decide, by decide⟩ (fun _ => w_f b274 d274_44 rfl rfl rfl <| w_rz b274 d274_45 r274 (by decide) (h.2.2.2 c6 _ rfl)) (fun c => absurd c (by decide)))
theorem e274 {w : PW} {Q : PO → PW → Prop} {x1 : Int} {x2 : Int} {x3 : Int} (hs : Sh w) (hx1 : bd x1) (hx2 : bd x2) (hx3 : bd x3) (h : (bd ((gI w 170 1) - 1)) ∧ (bd ((gI w 170 0) - 1)) ∧ (((0 ≤ x1 ∧ x1 < gI w 170 1) ∧ (0 ≤ x2 ∧ x2 < gI w 170 0)) → ∀ w2 : PW, w2 = sI w 169 0 0 → (bd ((gI w2 170 4) - 1)) ∧ ((0 ≤ x3 ∧ x3 < gI w2 170 4) → (bd ((251 + 64 * x1) + x2)) ∧ (0 ≤ (251 + 64 * x1) + x2 ∧ (251 + 64 * x1) + x2 < 843) ∧ (0 ≤ x3 ∧ x3 < 32) ∧ ((¬ (tI (gI w2 170 ((251 + 64 * x1) + x2).toNat) (x3).toNat = true)) → Q (.inl (some (iv 0))) w2) ∧ ((tI (gI w2 170 ((251 + 64 * x1) + x2).toNat) (x3).toNat = true) → Q (.inl (some (iv 1))) w2)) ∧ ((¬ (0 ≤ x3 ∧ x3 < gI w2 170 4)) → ∀ w5 : PW, w5 = sI w2 169 0 2 → Q (.inl (some (iv 0))) w5)) ∧ ((¬ ((0 ≤ x1 ∧ x1 < gI w 170 1) ∧ (0 ≤ x2 ∧ x2 < gI w 170 0))) → ∀ w7 : PW, w7 = sI w 169 0 1 → Q (.inl (some (iv 0))) w7)) : pC 274 [.ref 169, iv x1, iv x2, iv x3] w Q :=
  (pC_in (Nat.le_of_ble_eq_true rfl) rfl Q).mpr (v274_0 hs hx1 hx2 hx3 h)
/-! 277: PinBarrelModel.chord(II)I -/
theorem b277 : mB 277 = cX9_chord := rfl
theorem r277 : mR 277 = (some .int) := rfl
theorem p277 (a b : Nat) : phi 277 a ≤ phi 277 b := Nat.le_refl 0
theorem d277_0 : decode cX9_chord 0 = .ok (.aload_n 0, 1) := by decide +kernel
theorem d277_1 : decode cX9_chord 1 = .ok (.iload_n 1, 1) := by decide +kernel
theorem d277_2 : decode cX9_chord 2 = .ok (.iload_n 2, 1) := by decide +kernel
theorem d277_3 : decode cX9_chord 3 = .ok (.invokevirtual 374, 3) := by decide +kernel
theorem d277_6 : decode cX9_chord 6 = .ok (.ifCond .eq 7, 3) := by decide +kernel
theorem d277_9 : decode cX9_chord 9 = .ok (.iconst 0, 1) := by decide +kernel
theorem d277_10 : decode cX9_chord 10 = .ok (.goto 13, 3) := by decide +kernel
theorem d277_13 : decode cX9_chord 13 = .ok (.aload_n 0, 1) := by decide +kernel
theorem d277_14 : decode cX9_chord 14 = .ok (.getfield 9, 3) := by decide +kernel
theorem d277_17 : decode cX9_chord 17 = .ok (.iload_n 1, 1) := by decide +kernel
theorem d277_18 : decode cX9_chord 18 = .ok (.iload_n 2, 1) := by decide +kernel
theorem d277_19 : decode cX9_chord 19 = .ok (.invokestatic 213, 3) := by decide +kernel
theorem d277_22 : decode cX9_chord 22 = .ok (.iaload, 1) := by decide +kernel
theorem d277_23 : decode cX9_chord 23 = .ok (.ireturn, 1) := by decide +kernel
theorem v277_0 {w : PW} {Q : PO → PW → Prop} {x1 : Int} {x2 : Int} (hs : Sh w) (hx1 : bd x1) (hx2 : bd x2) (h : (bd ((gI w 170 1) - 1)) ∧ (bd ((gI w 170 0) - 1)) ∧ (((0 ≤ x1 ∧ x1 < gI w 170 1) ∧ (0 ≤ x2 ∧ x2 < gI w 170 0)) → ∀ w2 : PW, w2 = sI w 169 0 0 → (0 ≤ ((251 + 64 * x1) + x2) ∧ ((251 + 64 * x1) + x2) < 843) ∧ Q (.inl (some (iv (gI w2 170 ((251 + 64 * x1) + x2).toNat)))) w2) ∧ ((¬ ((0 ≤ x1 ∧ x1 < gI w 170 1) ∧ (0 ≤ x2 ∧ x2 < gI w 170 0))) → ∀ w4 : PW, w4 = sI w 169 0 1 → Q (.inl (some (iv 0))) w4)) : pX 277 0 [some (.ref 169), some (iv x1), some (iv x2)] [] w Q :=
  w_f b277 d277_0 rfl rfl rfl <| w_f b277 d277_1 rfl rfl rfl <| w_f b277 d277_2 rfl rfl rfl <| w_cc b277 d277_3 rfl (pcl_v (n := 2) rfl rfl rfl (by decide +kernel) (sh_isOb hs (tlt 169 rfl) tbC_169) rfl rfl) rfl <| c273 hs hx1 hx2 h.1 h.2.1 (fun c1 => w_ifeq b277 d277_6 rfl rfl (p277 _ _) ⟨by decide, by decide⟩ (fun _ => w_f b277 d277_13 rfl rfl rfl <| w_gr b277 d277_14 rfl rfl (Sh_sI hs (slt_o tbC_169 rfl)) (tlt 169 rfl) tbC_169 rfl (by decide) <| w_f b277 d277_17 rfl rfl rfl <| w_f b277 d277_18 rfl rfl rfl <| w_cc b277 d277_19 rfl (pcl_s1 (n := 2) rfl rfl rfl (by decide +kernel) rfl rfl) rfl <| c236 (Sh_sI hs (slt_o tbC_169 rfl)) hx1 hx2 <| w_ial b277 d277_22 rfl (Sh_sI hs (slt_o tbC_169 rfl)) (tlt 170 rfl) tbC_170 (bdix (n := 843) (h.2.2.1 c1 _ rfl).1 rfl) (h.2.2.1 c1 _ rfl).1 <| w_ri b277 d277_23 r277 (h.2.2.1 c1 _ rfl).2) (fun c => absurd c (by decide))) (fun c3 => w_ifeq b277 d277_6 rfl rfl (p277 _ _) ⟨by decide, by decide⟩ (fun c => absurd c (by decide)) (fun _ => w_f b277 d277_9 rfl rfl rfl <| w_j b277 d277_10 rfl (p277 _ _) <| w_ri b277 d277_23 r277 (h.2.2.2 c3 _ rfl)))
theorem e277 {w : PW} {Q : PO → PW → Prop} {x1 : Int} {x2 : Int} (hs : Sh w) (hx1 : bd x1) (hx2 : bd x2) (h : (bd ((gI w 170 1) - 1)) ∧ (bd ((gI w 170 0) - 1)) ∧ (((0 ≤ x1 ∧ x1 < gI w 170 1) ∧ (0 ≤ x2 ∧ x2 < gI w 170 0)) → ∀ w2 : PW, w2 = sI w 169 0 0 → (0 ≤ ((251 + 64 * x1) + x2) ∧ ((251 + 64 * x1) + x2) < 843) ∧ Q (.inl (some (iv (gI w2 170 ((251 + 64 * x1) + x2).toNat)))) w2) ∧ ((¬ ((0 ≤ x1 ∧ x1 < gI w 170 1) ∧ (0 ≤ x2 ∧ x2 < gI w 170 0))) → ∀ w4 : PW, w4 = sI w 169 0 1 → Q (.inl (some (iv 0))) w4)) : pC 277 [.ref 169, iv x1, iv x2] w Q :=
  (pC_in (Nat.le_of_ble_eq_true rfl) rfl Q).mpr (v277_0 hs hx1 hx2 h)
section MOS
variable {w : PW} {Q : PO → PW → Prop} {E : Nat} {r : PO}
theorem mo_t {P : Prop} [Decidable P] (h : ∀ w2, MqF w w2 → gI w2 169 0 = moE (if P then r else .inr E) → Q (moV (if P then r else .inr E)) w2) (q : P) : ∀ w2, MqF w w2 → gI w2 169 0 = moE r → Q (moV r) w2 := by
  have e : (if P then r else .inr E) = r := if_pos q
  rw [e] at h
  exact h
theorem mo_f {P : Prop} [Decidable P] (h : ∀ w2, MqF w w2 → gI w2 169 0 = moE (if P then r else .inr E) → Q (moV (if P then r else .inr E)) w2) (q : ¬ P) : ∀ w2, MqF w w2 → gI w2 169 0 = (E : Nat) → Q (.inl (some (iv 0))) w2 := by
  have e : (if P then r else .inr E) = .inr E := if_neg q
  rw [e] at h
  exact h
/-- `thrown` is set -/
theorem MqF.th {w2 : PW} {z : Int} (hs : Sh w) (e : w2 = sI w 169 0 z) (hz : bd z) : MqF w w2 ∧ gI w2 169 0 = z := by
  obtain ⟨F, g, -⟩ := MqF.set hs e (slt_o tbC_169 rfl) hz (by omega)
  exact ⟨F, g⟩
end MOS
theorem c274 {w : PW} {Q : PO → PW → Prop} {m : Row} {x1 x2 x3 : Int} (hs : Sh w) (hM : MR w m) (hx1 : bd x1) (hx2 : bd x2) (hx3 : bd x3) (h : ∀ w2, MqF w w2 → gI w2 169 0 = moE (sp79 m x1 x2 x3) → Q (moV (sp79 m x1 x2 x3)) w2) : pC 274 [.ref 169, iv x1, iv x2, iv x3] w Q := by
  have h0 := hM.ok.s
  have h1 := hM.ok.u
  have h4 := hM.ok.t
  refine e274 hs hx1 hx2 hx3 ?_
  rw [hM.g (k := 1) rfl, hM.g (k := 0) rfl]
  refine ⟨⟨by omega, by omega⟩, ⟨by omega, by omega⟩, fun q w2 e2 => ?_, fun q w3 e3 => ?_⟩
  · obtain ⟨F2, g2⟩ := MqF.th hs e2 bd0
    have hM2 := F2.mr hM
    have h2 := mo_t (mo_t h q.1) q.2
    obtain ⟨u, rfl⟩ := nat_of q.1.1
    obtain ⟨s, rfl⟩ := nat_of q.2.1
    rw [hM2.g (k := 4) rfl, hM2.pin (by omega) (by omega)]
    refine ⟨⟨by omega, by omega⟩, fun q3 => ⟨⟨by omega, by omega⟩, ⟨by omega, by omega⟩, ⟨by omega, by omega⟩, fun q4 => ?_, fun q4 => ?_⟩, fun q3 w4 e4 => ?_⟩
    · have := mo_t h2 q3 w2 F2 g2
      rw [if_neg (show ¬ rPin m (u : Int).toNat (s : Int).toNat x3.toNat = true from q4)] at this
      exact this
    · have := mo_t h2 q3 w2 F2 g2
      rw [if_pos (show rPin m (u : Int).toNat (s : Int).toNat x3.toNat = true from q4)] at this
      exact this
    · obtain ⟨F4, g4⟩ := MqF.th F2.1 e4 ⟨by decide, by decide⟩
      exact mo_f h2 q3 w4 (F2.tr F4) g4
  · obtain ⟨F3, g3⟩ := MqF.th hs e3 ⟨by decide, by decide⟩
    by_cases q1 : 0 ≤ x1 ∧ x1 < m 1
    · exact mo_f (mo_t h q1) (fun z => q ⟨q1, z⟩) w3 F3 g3
    · exact mo_f h q1 w3 F3 g3
theorem c277 {w : PW} {Q : PO → PW → Prop} {m : Row} {x1 x2 : Int} (hs : Sh w) (hM : MR w m) (hx1 : bd x1) (hx2 : bd x2) (h : ∀ w2, MqF w w2 → gI w2 169 0 = moE (sp85 m x1 x2) → Q (moV (sp85 m x1 x2)) w2) : pC 277 [.ref 169, iv x1, iv x2] w Q := by
  have h0 := hM.ok.s
  have h1 := hM.ok.u
  refine e277 hs hx1 hx2 ?_
  rw [hM.g (k := 1) rfl, hM.g (k := 0) rfl]
  refine ⟨⟨by omega, by omega⟩, ⟨by omega, by omega⟩, fun q w2 e2 => ?_, fun q w3 e3 => ?_⟩
  · obtain ⟨F2, g2⟩ := MqF.th hs e2 bd0
    have hM2 := F2.mr hM
    have h2 := mo_t (mo_t h q.1) q.2
    obtain ⟨u, rfl⟩ := nat_of q.1.1
    obtain ⟨s, rfl⟩ := nat_of q.2.1
    rw [hM2.pin (by omega) (by omega)]
    exact ⟨⟨by omega, by omega⟩, h2 w2 F2 g2⟩
  · obtain ⟨F3, g3⟩ := MqF.th hs e3 ⟨by decide, by decide⟩
    by_cases q1 : 0 ≤ x1 ∧ x1 < m 1
    · exact mo_f (mo_t h q1) (fun z => q ⟨q1, z⟩) w3 F3 g3
    · exact mo_f h q1 w3 F3 g3
