/-! THE LEAVES of the model -/
/-! 217: PinBarrelModel.thrown()I -/
theorem b217 : mB 217 = cX9_thrown := rfl
theorem r217 : mR 217 = (some .int) := rfl
theorem p217 (a b : Nat) : phi 217 a ≤ phi 217 b := Nat.le_refl 0
theorem d217_0 : decode cX9_thrown 0 = .ok (.aload_n 0, 1) := by decide +kernel
theorem d217_1 : decode cX9_thrown 1 = .ok (.getfield 50, 3) := by decide +kernel
theorem d217_4 : decode cX9_thrown 4 = .ok (.ireturn, 1) := by decide +kernel
theorem v217_0 {w : PW} {Q : PO → PW → Prop}  (hs : Sh w)  (h : Q (.inl (some (iv (gI w 169 0)))) w) : pX 217 0 [some (.ref 169)] [] w Q :=
  w_f b217 d217_0 rfl rfl rfl <| w_gi b217 d217_1 rfl rfl hs (tlt 169 rfl) tbC_169 rfl <| w_ri b217 d217_4 r217 h
theorem e217 {w : PW} {Q : PO → PW → Prop}  (hs : Sh w)  (h : Q (.inl (some (iv (gI w 169 0)))) w) : pC 217 [.ref 169] w Q :=
  (pC_in (Nat.le_of_ble_eq_true rfl) rfl Q).mpr (v217_0 hs  h)
theorem c217 {w : PW} {Q : PO → PW → Prop} (hs : Sh w) (h : Q (.inl (some (iv (gI w 169 0)))) w) : pC 217 [.ref 169] w Q := e217 hs h
/-! 221: PinBarrelModel.in(JJJ)Z -/
theorem b221 : mB 221 = cX9_in := rfl
theorem r221 : mR 221 = (some .boolean) := rfl
theorem p221 (a b : Nat) : phi 221 a ≤ phi 221 b := Nat.le_refl 0
theorem d221_0 : decode cX9_in 0 = .ok (.lload_n 2, 1) := by decide +kernel
theorem d221_1 : decode cX9_in 1 = .ok (.lload_n 0, 1) := by decide +kernel
theorem d221_2 : decode cX9_in 2 = .ok (.lcmp, 1) := by decide +kernel
theorem d221_3 : decode cX9_in 3 = .ok (.ifCond .gt 14, 3) := by decide +kernel
theorem d221_6 : decode cX9_in 6 = .ok (.lload_n 0, 1) := by decide +kernel
theorem d221_7 : decode cX9_in 7 = .ok (.lload 4, 2) := by decide +kernel
theorem d221_9 : decode cX9_in 9 = .ok (.lcmp, 1) := by decide +kernel
theorem d221_10 : decode cX9_in 10 = .ok (.ifCond .gt 7, 3) := by decide +kernel
theorem d221_13 : decode cX9_in 13 = .ok (.iconst 1, 1) := by decide +kernel
theorem d221_14 : decode cX9_in 14 = .ok (.goto 4, 3) := by decide +kernel
theorem d221_17 : decode cX9_in 17 = .ok (.iconst 0, 1) := by decide +kernel
theorem d221_18 : decode cX9_in 18 = .ok (.ireturn, 1) := by decide +kernel
theorem v221_0 {w : PW} {Q : PO → PW → Prop} {y0 : Int64} {y2 : Int64} {y4 : Int64} (hs : Sh w)  (h : (0 < (lCmp y2 y0) → Q (.inl (some (iv 0))) w) ∧ ((lCmp y2 y0) ≤ 0 → (0 < (lCmp y0 y4) → Q (.inl (some (iv 0))) w) ∧ ((lCmp y0 y4) ≤ 0 → Q (.inl (some (iv 1))) w))) : pX 221 0 [some (.long y0), none, some (.long y2), none, some (.long y4), none] [] w Q :=
  w_f b221 d221_0 rfl rfl rfl <| w_f b221 d221_1 rfl rfl rfl <| w_f b221 d221_2 rfl (pf_lcmp _ _) rfl <| w_ifgt b221 d221_3 rfl rfl (p221 _ _) (bd_toInt _) (fun c1 => w_f b221 d221_17 rfl rfl rfl <| w_rz b221 d221_18 r221 (by decide) (h.1 c1)) (fun c1 => w_f b221 d221_6 rfl rfl rfl <| w_f b221 d221_7 rfl rfl rfl <| w_f b221 d221_9 rfl (pf_lcmp _ _) rfl <| w_ifgt b221 d221_10 rfl rfl (p221 _ _) (bd_toInt _) (fun c2 => w_f b221 d221_17 rfl rfl rfl <| w_rz b221 d221_18 r221 (by decide) ((h.2 c1).1 c2)) (fun c2 => w_f b221 d221_13 rfl rfl rfl <| w_j b221 d221_14 rfl (p221 _ _) <| w_rz b221 d221_18 r221 (by decide) ((h.2 c1).2 c2)))
theorem e221 {w : PW} {Q : PO → PW → Prop} {y0 : Int64} {y2 : Int64} {y4 : Int64} (hs : Sh w)  (h : (0 < (lCmp y2 y0) → Q (.inl (some (iv 0))) w) ∧ ((lCmp y2 y0) ≤ 0 → (0 < (lCmp y0 y4) → Q (.inl (some (iv 0))) w) ∧ ((lCmp y0 y4) ≤ 0 → Q (.inl (some (iv 1))) w))) : pC 221 [.long y0, .long y2, .long y4] w Q :=
  (pC_in (Nat.le_of_ble_eq_true rfl) rfl Q).mpr (v221_0 hs  h)
theorem c221 {w : PW} {Q : PO → PW → Prop} {y0 y2 y4 : Int64} (hs : Sh w) (h : Q (.inl (some (iv (if y2.toInt ≤ y0.toInt ∧ y0.toInt ≤ y4.toInt then 1 else 0)))) w) : pC 221 [.long y0, .long y2, .long y4] w Q := by
  refine e221 hs ⟨fun q => ?_, fun q => ⟨fun q2 => ?_, fun q2 => ?_⟩⟩
  · have := lCmp_gt.mp q
    rw [if_neg (by omega)] at h; exact h
  · have := lCmp_gt.mp q2
    rw [if_neg (by omega)] at h; exact h
  · have h1 : ¬ y0.toInt < y2.toInt := fun q3 => by have := lCmp_gt.mpr q3; omega
    have h2 : ¬ y4.toInt < y0.toInt := fun q3 => by have := lCmp_gt.mpr q3; omega
    rw [if_pos (by omega)] at h; exact h
/-! 222: PinBarrelModel.isAt(III)Z -/
theorem b222 : mB 222 = cX9_isAt := rfl
theorem r222 : mR 222 = (some .boolean) := rfl
theorem p222 (a b : Nat) : phi 222 a ≤ phi 222 b := Nat.le_refl 0
theorem d222_0 : decode cX9_isAt 0 = .ok (.iload_n 1, 1) := by decide +kernel
theorem d222_1 : decode cX9_isAt 1 = .ok (.aload_n 0, 1) := by decide +kernel
theorem d222_2 : decode cX9_isAt 2 = .ok (.getfield 58, 3) := by decide +kernel
theorem d222_5 : decode cX9_isAt 5 = .ok (.if_icmp .ge 27, 3) := by decide +kernel
theorem d222_8 : decode cX9_isAt 8 = .ok (.aload_n 0, 1) := by decide +kernel
theorem d222_9 : decode cX9_isAt 9 = .ok (.getfield 26, 3) := by decide +kernel
theorem d222_12 : decode cX9_isAt 12 = .ok (.iload_n 1, 1) := by decide +kernel
theorem d222_13 : decode cX9_isAt 13 = .ok (.baload, 1) := by decide +kernel
theorem d222_14 : decode cX9_isAt 14 = .ok (.iload_n 2, 1) := by decide +kernel
theorem d222_15 : decode cX9_isAt 15 = .ok (.if_icmp .lt 17, 3) := by decide +kernel
theorem d222_18 : decode cX9_isAt 18 = .ok (.aload_n 0, 1) := by decide +kernel
theorem d222_19 : decode cX9_isAt 19 = .ok (.getfield 26, 3) := by decide +kernel
theorem d222_22 : decode cX9_isAt 22 = .ok (.iload_n 1, 1) := by decide +kernel
theorem d222_23 : decode cX9_isAt 23 = .ok (.baload, 1) := by decide +kernel
theorem d222_24 : decode cX9_isAt 24 = .ok (.iload_n 3, 1) := by decide +kernel
theorem d222_25 : decode cX9_isAt 25 = .ok (.if_icmp .gt 7, 3) := by decide +kernel
theorem d222_28 : decode cX9_isAt 28 = .ok (.iconst 1, 1) := by decide +kernel
theorem d222_29 : decode cX9_isAt 29 = .ok (.goto 4, 3) := by decide +kernel
theorem d222_32 : decode cX9_isAt 32 = .ok (.iconst 0, 1) := by decide +kernel
theorem d222_33 : decode cX9_isAt 33 = .ok (.ireturn, 1) := by decide +kernel
theorem v222_0 {w : PW} {Q : PO → PW → Prop} {x1 : Int} {x2 : Int} {x3 : Int} (hs : Sh w) (hx1 : bd x1) (hx2 : bd x2) (hx3 : bd x3) (h : ((gI w 169 8) ≤ x1 → Q (.inl (some (iv 0))) w) ∧ (x1 < (gI w 169 8) → (0 ≤ x1 ∧ x1 < 700) ∧ ((gI w 175 x1.toNat) < x2 → Q (.inl (some (iv 0))) w) ∧ (x2 ≤ (gI w 175 x1.toNat) → (0 ≤ x1 ∧ x1 < 700) ∧ (x3 < (gI w 175 x1.toNat) → Q (.inl (some (iv 0))) w) ∧ ((gI w 175 x1.toNat) ≤ x3 → Q (.inl (some (iv 1))) w)))) : pX 222 0 [some (.ref 169), some (iv x1), some (iv x2), some (iv x3)] [] w Q :=
  w_f b222 d222_0 rfl rfl rfl <| w_f b222 d222_1 rfl rfl rfl <| w_gi b222 d222_2 rfl rfl hs (tlt 169 rfl) tbC_169 rfl <| w_icge b222 d222_5 rfl rfl (p222 _ _) hx1 (bd_gI _ _ _) (fun c1 => w_f b222 d222_32 rfl rfl rfl <| w_rz b222 d222_33 r222 (by decide) (h.1 c1)) (fun c1 => w_f b222 d222_8 rfl rfl rfl <| w_gr b222 d222_9 rfl rfl hs (tlt 169 rfl) tbC_169 rfl (by decide) <| w_f b222 d222_12 rfl rfl rfl <| w_bal b222 d222_13 rfl hs (tlt 175 rfl) tbC_175 (by decide) (bdix (n := 700) (h.2 c1).1 rfl) (h.2 c1).1 <| w_f b222 d222_14 rfl rfl rfl <| w_iclt b222 d222_15 rfl rfl (p222 _ _) (bd_gI _ _ _) hx2 (fun c2 => w_f b222 d222_32 rfl rfl rfl <| w_rz b222 d222_33 r222 (by decide) ((h.2 c1).2.1 c2)) (fun c2 => w_f b222 d222_18 rfl rfl rfl <| w_gr b222 d222_19 rfl rfl hs (tlt 169 rfl) tbC_169 rfl (by decide) <| w_f b222 d222_22 rfl rfl rfl <| w_bal b222 d222_23 rfl hs (tlt 175 rfl) tbC_175 (by decide) (bdix (n := 700) ((h.2 c1).2.2 c2).1 rfl) ((h.2 c1).2.2 c2).1 <| w_f b222 d222_24 rfl rfl rfl <| w_icgt b222 d222_25 rfl rfl (p222 _ _) (bd_gI _ _ _) hx3 (fun c3 => w_f b222 d222_32 rfl rfl rfl <| w_rz b222 d222_33 r222 (by decide) (((h.2 c1).2.2 c2).2.1 c3)) (fun c3 => w_f b222 d222_28 rfl rfl rfl <| w_j b222 d222_29 rfl (p222 _ _) <| w_rz b222 d222_33 r222 (by decide) (((h.2 c1).2.2 c2).2.2 c3))))
theorem e222 {w : PW} {Q : PO → PW → Prop} {x1 : Int} {x2 : Int} {x3 : Int} (hs : Sh w) (hx1 : bd x1) (hx2 : bd x2) (hx3 : bd x3) (h : ((gI w 169 8) ≤ x1 → Q (.inl (some (iv 0))) w) ∧ (x1 < (gI w 169 8) → (0 ≤ x1 ∧ x1 < 700) ∧ ((gI w 175 x1.toNat) < x2 → Q (.inl (some (iv 0))) w) ∧ (x2 ≤ (gI w 175 x1.toNat) → (0 ≤ x1 ∧ x1 < 700) ∧ (x3 < (gI w 175 x1.toNat) → Q (.inl (some (iv 0))) w) ∧ ((gI w 175 x1.toNat) ≤ x3 → Q (.inl (some (iv 1))) w)))) : pC 222 [.ref 169, iv x1, iv x2, iv x3] w Q :=
  (pC_in (Nat.le_of_ble_eq_true rfl) rfl Q).mpr (v222_0 hs hx1 hx2 hx3 h)
theorem c222 {w : PW} {Q : PO → PW → Prop} {x1 x2 x3 : Int} (hs : Sh w) (hx1 : bd x1) (hx2 : bd x2) (hx3 : bd x3) (h0 : 0 ≤ x1) (hl : gI w 169 8 ≤ 700) (h : Q (.inl (some (iv (if x1 < gI w 169 8 ∧ x2 ≤ gI w 175 x1.toNat ∧ gI w 175 x1.toNat ≤ x3 then 1 else 0)))) w) : pC 222 [.ref 169, iv x1, iv x2, iv x3] w Q := by
  refine e222 hs hx1 hx2 hx3 ⟨fun q => ?_, fun q => ⟨⟨h0, by omega⟩, fun q2 => ?_, fun q2 => ⟨⟨h0, by omega⟩, fun q3 => ?_, fun q3 => ?_⟩⟩⟩
  · rw [if_neg (by omega)] at h; exact h
  · rw [if_neg (by omega)] at h; exact h
  · rw [if_neg (by omega)] at h; exact h
  · rw [if_pos ⟨q, q2, q3⟩] at h; exact h
/-! 224: PinBarrelModel.fails(II)Z -/
theorem b224 : mB 224 = cX9_fails := rfl
theorem r224 : mR 224 = (some .boolean) := rfl
theorem p224 (a b : Nat) : phi 224 a ≤ phi 224 b := Nat.le_refl 0
theorem d224_0 : decode cX9_fails 0 = .ok (.aload_n 0, 1) := by decide +kernel
theorem d224_1 : decode cX9_fails 1 = .ok (.iload_n 1, 1) := by decide +kernel
theorem d224_2 : decode cX9_fails 2 = .ok (.putfield 61, 3) := by decide +kernel
theorem d224_5 : decode cX9_fails 5 = .ok (.aload_n 0, 1) := by decide +kernel
theorem d224_6 : decode cX9_fails 6 = .ok (.iload_n 2, 1) := by decide +kernel
theorem d224_7 : decode cX9_fails 7 = .ok (.putfield 64, 3) := by decide +kernel
theorem d224_10 : decode cX9_fails 10 = .ok (.iconst 0, 1) := by decide +kernel
theorem d224_11 : decode cX9_fails 11 = .ok (.ireturn, 1) := by decide +kernel
theorem v224_0 {w : PW} {Q : PO → PW → Prop} {x1 : Int} {x2 : Int} (hs : Sh w) (hx1 : bd x1) (hx2 : bd x2) (h : ∀ w1 : PW, w1 = sI w 169 12 x1 → ∀ w2 : PW, w2 = sI w1 169 13 x2 → Q (.inl (some (iv 0))) w2) : pX 224 0 [some (.ref 169), some (iv x1), some (iv x2)] [] w Q :=
  w_f b224 d224_0 rfl rfl rfl <| w_f b224 d224_1 rfl rfl rfl <| w_pi b224 d224_2 rfl rfl hs (tlt 169 rfl) tbC_169 rfl rfl rfl <| w_f b224 d224_5 rfl rfl rfl <| w_f b224 d224_6 rfl rfl rfl <| w_pi b224 d224_7 rfl rfl (Sh_sI hs (slt_o tbC_169 rfl)) (tlt 169 rfl) tbC_169 rfl rfl rfl <| w_f b224 d224_10 rfl rfl rfl <| w_rz b224 d224_11 r224 (by decide) ((h _ rfl) _ rfl)
theorem e224 {w : PW} {Q : PO → PW → Prop} {x1 : Int} {x2 : Int} (hs : Sh w) (hx1 : bd x1) (hx2 : bd x2) (h : ∀ w1 : PW, w1 = sI w 169 12 x1 → ∀ w2 : PW, w2 = sI w1 169 13 x2 → Q (.inl (some (iv 0))) w2) : pC 224 [.ref 169, iv x1, iv x2] w Q :=
  (pC_in (Nat.le_of_ble_eq_true rfl) rfl Q).mpr (v224_0 hs hx1 hx2 h)
theorem c224 {w : PW} {Q : PO → PW → Prop} {x1 x2 : Int} (hs : Sh w) (hx1 : bd x1) (hx2 : bd x2) (h : Q (.inl (some (iv 0))) (sI (sI w 169 12 x1) 169 13 x2)) : pC 224 [.ref 169, iv x1, iv x2] w Q := e224 hs hx1 hx2 (fun _ e1 _ e2 => by subst e1; subst e2; exact h)
/-! 228: PinBarrelModel.nameOf(I)Ljava/lang/String; -/
theorem b228 : mB 228 = cX9_nameOf := rfl
theorem r228 : mR 228 = (some (.object "java/lang/String")) := rfl
theorem p228 (a b : Nat) : phi 228 a ≤ phi 228 b := Nat.le_refl 0
theorem d228_0 : decode cX9_nameOf 0 = .ok (.iload_n 0, 1) := by decide +kernel
theorem d228_1 : decode cX9_nameOf 1 = .ok (.tableswitch 92 0 10 #[59, 62, 65, 68, 71, 74, 77, 80, 83, 86, 89], 59) := by decide +kernel
theorem d228_60 : decode cX9_nameOf 60 = .ok (.ldc 112, 2) := by decide +kernel
theorem d228_62 : decode cX9_nameOf 62 = .ok (.areturn, 1) := by decide +kernel
theorem d228_63 : decode cX9_nameOf 63 = .ok (.ldc 114, 2) := by decide +kernel
theorem d228_65 : decode cX9_nameOf 65 = .ok (.areturn, 1) := by decide +kernel
theorem d228_66 : decode cX9_nameOf 66 = .ok (.ldc 116, 2) := by decide +kernel
theorem d228_68 : decode cX9_nameOf 68 = .ok (.areturn, 1) := by decide +kernel
theorem d228_69 : decode cX9_nameOf 69 = .ok (.ldc 118, 2) := by decide +kernel
theorem d228_71 : decode cX9_nameOf 71 = .ok (.areturn, 1) := by decide +kernel
theorem d228_72 : decode cX9_nameOf 72 = .ok (.ldc 120, 2) := by decide +kernel
theorem d228_74 : decode cX9_nameOf 74 = .ok (.areturn, 1) := by decide +kernel
theorem d228_75 : decode cX9_nameOf 75 = .ok (.ldc 122, 2) := by decide +kernel
theorem d228_77 : decode cX9_nameOf 77 = .ok (.areturn, 1) := by decide +kernel
theorem d228_78 : decode cX9_nameOf 78 = .ok (.ldc 124, 2) := by decide +kernel
theorem d228_80 : decode cX9_nameOf 80 = .ok (.areturn, 1) := by decide +kernel
theorem d228_81 : decode cX9_nameOf 81 = .ok (.ldc 126, 2) := by decide +kernel
theorem d228_83 : decode cX9_nameOf 83 = .ok (.areturn, 1) := by decide +kernel
theorem d228_84 : decode cX9_nameOf 84 = .ok (.ldc 128, 2) := by decide +kernel
theorem d228_86 : decode cX9_nameOf 86 = .ok (.areturn, 1) := by decide +kernel
theorem d228_87 : decode cX9_nameOf 87 = .ok (.ldc 130, 2) := by decide +kernel
theorem d228_89 : decode cX9_nameOf 89 = .ok (.areturn, 1) := by decide +kernel
theorem d228_90 : decode cX9_nameOf 90 = .ok (.ldc 132, 2) := by decide +kernel
theorem d228_92 : decode cX9_nameOf 92 = .ok (.areturn, 1) := by decide +kernel
theorem d228_93 : decode cX9_nameOf 93 = .ok (.ldc 134, 2) := by decide +kernel
theorem d228_95 : decode cX9_nameOf 95 = .ok (.areturn, 1) := by decide +kernel
theorem v228_0 {w : PW} {Q : PO → PW → Prop} {x0 : Int} (hs : Sh w) (hx0 : bd x0) (h : (x0 < 0 ∨ 10 < x0 → Q (.inl (some (.ref (pSB + 32)))) w) ∧ (x0 = 0 → Q (.inl (some (.ref (pSB + 21)))) w) ∧ (x0 = 1 → Q (.inl (some (.ref (pSB + 22)))) w) ∧ (x0 = 2 → Q (.inl (some (.ref (pSB + 23)))) w) ∧ (x0 = 3 → Q (.inl (some (.ref (pSB + 24)))) w) ∧ (x0 = 4 → Q (.inl (some (.ref (pSB + 25)))) w) ∧ (x0 = 5 → Q (.inl (some (.ref (pSB + 26)))) w) ∧ (x0 = 6 → Q (.inl (some (.ref (pSB + 27)))) w) ∧ (x0 = 7 → Q (.inl (some (.ref (pSB + 28)))) w) ∧ (x0 = 8 → Q (.inl (some (.ref (pSB + 29)))) w) ∧ (x0 = 9 → Q (.inl (some (.ref (pSB + 30)))) w) ∧ (x0 = 10 → Q (.inl (some (.ref (pSB + 31)))) w)) : pX 228 0 [some (iv x0)] [] w Q :=
  w_f b228 d228_0 rfl rfl rfl <| Decidable.byCases (p := x0 < 0 ∨ 10 < x0) (fun c1 => w_tsO b228 d228_1 rfl (p228 _ _) hx0 c1 <| w_ldcS b228 d228_93 rfl rfl <| w_ra b228 d228_95 r228 (h.1 c1)) (fun cz => Decidable.byCases (p := x0 = 0) (fun c1 => w_tsI (off := 59) b228 d228_1 rfl (p228 _ _) hx0 cz (by rw [c1]; rfl) <| w_ldcS b228 d228_60 rfl rfl <| w_ra b228 d228_62 r228 (h.2.1 c1)) (fun cn0 => Decidable.byCases (p := x0 = 1) (fun c1 => w_tsI (off := 62) b228 d228_1 rfl (p228 _ _) hx0 cz (by rw [c1]; rfl) <| w_ldcS b228 d228_63 rfl rfl <| w_ra b228 d228_65 r228 (h.2.2.1 c1)) (fun cn1 => Decidable.byCases (p := x0 = 2) (fun c1 => w_tsI (off := 65) b228 d228_1 rfl (p228 _ _) hx0 cz (by rw [c1]; rfl) <| w_ldcS b228 d228_66 rfl rfl <| w_ra b228 d228_68 r228 (h.2.2.2.1 c1)) (fun cn2 => Decidable.byCases (p := x0 = 3) (fun c1 => w_tsI (off := 68) b228 d228_1 rfl (p228 _ _) hx0 cz (by rw [c1]; rfl) <| w_ldcS b228 d228_69 rfl rfl <| w_ra b228 d228_71 r228 (h.2.2.2.2.1 c1)) (fun cn3 => Decidable.byCases (p := x0 = 4) (fun c1 => w_tsI (off := 71) b228 d228_1 rfl (p228 _ _) hx0 cz (by rw [c1]; rfl) <| w_ldcS b228 d228_72 rfl rfl <| w_ra b228 d228_74 r228 (h.2.2.2.2.2.1 c1)) (fun cn4 => Decidable.byCases (p := x0 = 5) (fun c1 => w_tsI (off := 74) b228 d228_1 rfl (p228 _ _) hx0 cz (by rw [c1]; rfl) <| w_ldcS b228 d228_75 rfl rfl <| w_ra b228 d228_77 r228 (h.2.2.2.2.2.2.1 c1)) (fun cn5 => Decidable.byCases (p := x0 = 6) (fun c1 => w_tsI (off := 77) b228 d228_1 rfl (p228 _ _) hx0 cz (by rw [c1]; rfl) <| w_ldcS b228 d228_78 rfl rfl <| w_ra b228 d228_80 r228 (h.2.2.2.2.2.2.2.1 c1)) (fun cn6 => Decidable.byCases (p := x0 = 7) (fun c1 => w_tsI (off := 80) b228 d228_1 rfl (p228 _ _) hx0 cz (by rw [c1]; rfl) <| w_ldcS b228 d228_81 rfl rfl <| w_ra b228 d228_83 r228 (h.2.2.2.2.2.2.2.2.1 c1)) (fun cn7 => Decidable.byCases (p := x0 = 8) (fun c1 => w_tsI (off := 83) b228 d228_1 rfl (p228 _ _) hx0 cz (by rw [c1]; rfl) <| w_ldcS b228 d228_84 rfl rfl <| w_ra b228 d228_86 r228 (h.2.2.2.2.2.2.2.2.2.1 c1)) (fun cn8 => Decidable.byCases (p := x0 = 9) (fun c1 => w_tsI (off := 86) b228 d228_1 rfl (p228 _ _) hx0 cz (by rw [c1]; rfl) <| w_ldcS b228 d228_87 rfl rfl <| w_ra b228 d228_89 r228 (h.2.2.2.2.2.2.2.2.2.2.1 c1)) (fun cn9 => have c1 : x0 = 10 := by omega
  w_tsI (off := 89) b228 d228_1 rfl (p228 _ _) hx0 cz (by rw [c1]; rfl) <| w_ldcS b228 d228_90 rfl rfl <| w_ra b228 d228_92 r228 (h.2.2.2.2.2.2.2.2.2.2.2 c1))))))))))))
theorem e228 {w : PW} {Q : PO → PW → Prop} {x0 : Int} (hs : Sh w) (hx0 : bd x0) (h : (x0 < 0 ∨ 10 < x0 → Q (.inl (some (.ref (pSB + 32)))) w) ∧ (x0 = 0 → Q (.inl (some (.ref (pSB + 21)))) w) ∧ (x0 = 1 → Q (.inl (some (.ref (pSB + 22)))) w) ∧ (x0 = 2 → Q (.inl (some (.ref (pSB + 23)))) w) ∧ (x0 = 3 → Q (.inl (some (.ref (pSB + 24)))) w) ∧ (x0 = 4 → Q (.inl (some (.ref (pSB + 25)))) w) ∧ (x0 = 5 → Q (.inl (some (.ref (pSB + 26)))) w) ∧ (x0 = 6 → Q (.inl (some (.ref (pSB + 27)))) w) ∧ (x0 = 7 → Q (.inl (some (.ref (pSB + 28)))) w) ∧ (x0 = 8 → Q (.inl (some (.ref (pSB + 29)))) w) ∧ (x0 = 9 → Q (.inl (some (.ref (pSB + 30)))) w) ∧ (x0 = 10 → Q (.inl (some (.ref (pSB + 31)))) w)) : pC 228 [iv x0] w Q :=
  (pC_in (Nat.le_of_ble_eq_true rfl) rfl Q).mpr (v228_0 hs hx0 h)
theorem c228 {w : PW} {Q : PO → PW → Prop} {x0 : Int} (hs : Sh w) (hx0 : bd x0) (h : Q (.inl (some (.ref (pSB + nmM x0)))) w) : pC 228 [iv x0] w Q := by
  refine e228 hs hx0 ⟨fun q => ?_, fun q => ?_, fun q => ?_, fun q => ?_, fun q => ?_, fun q => ?_, fun q => ?_, fun q => ?_, fun q => ?_, fun q => ?_, fun q => ?_, fun q => ?_⟩
  · unfold nmM at h; rw [if_pos q] at h; exact h
  all_goals (subst q; exact h)
/-! 230: PinBarrelModel.toothAt(II)I -/
theorem b230 : mB 230 = cX9_toothAt := rfl
theorem r230 : mR 230 = (some .int) := rfl
theorem p230 (a b : Nat) : phi 230 a ≤ phi 230 b := Nat.le_refl 0
theorem d230_0 : decode cX9_toothAt 0 = .ok (.bipush 11, 2) := by decide +kernel
theorem d230_2 : decode cX9_toothAt 2 = .ok (.iconst 5, 1) := by decide +kernel
theorem d230_3 : decode cX9_toothAt 3 = .ok (.iload_n 0, 1) := by decide +kernel
theorem d230_4 : decode cX9_toothAt 4 = .ok (.imul, 1) := by decide +kernel
theorem d230_5 : decode cX9_toothAt 5 = .ok (.iadd, 1) := by decide +kernel
theorem d230_6 : decode cX9_toothAt 6 = .ok (.iload_n 1, 1) := by decide +kernel
theorem d230_7 : decode cX9_toothAt 7 = .ok (.iadd, 1) := by decide +kernel
theorem d230_8 : decode cX9_toothAt 8 = .ok (.ireturn, 1) := by decide +kernel
theorem v230_0 {w : PW} {Q : PO → PW → Prop} {x0 : Int} {x1 : Int} (hs : Sh w) (hx0 : bd x0) (hx1 : bd x1) (h : Q (.inl (some (iv ((11 + (5 * x0)) + x1)))) w) : pX 230 0 [some (iv x0), some (iv x1)] [] w Q :=
  w_f b230 d230_0 rfl rfl rfl <| w_f b230 d230_2 rfl rfl rfl <| w_f b230 d230_3 rfl rfl rfl <| w_f b230 d230_4 rfl (pf_imul 5 x0) rfl <| w_f b230 d230_5 rfl (pf_iadd 11 (5 * x0)) rfl <| w_f b230 d230_6 rfl rfl rfl <| w_f b230 d230_7 rfl (pf_iadd (11 + (5 * x0)) x1) rfl <| w_ri b230 d230_8 r230 h
theorem e230 {w : PW} {Q : PO → PW → Prop} {x0 : Int} {x1 : Int} (hs : Sh w) (hx0 : bd x0) (hx1 : bd x1) (h : Q (.inl (some (iv ((11 + (5 * x0)) + x1)))) w) : pC 230 [iv x0, iv x1] w Q :=
  (pC_in (Nat.le_of_ble_eq_true rfl) rfl Q).mpr (v230_0 hs hx0 hx1 h)
theorem c230 {w : PW} {Q : PO → PW → Prop} {x0 x1 : Int} (hs : Sh w) (hx0 : bd x0) (hx1 : bd x1) (h : Q (.inl (some (iv ((11 + 5 * x0) + x1)))) w) : pC 230 [iv x0, iv x1] w Q := e230 hs hx0 hx1 h
/-! 233: PinBarrelModel.noteAt(II)I -/
theorem b233 : mB 233 = cX9_noteAt := rfl
theorem r233 : mR 233 = (some .int) := rfl
theorem p233 (a b : Nat) : phi 233 a ≤ phi 233 b := Nat.le_refl 0
theorem d233_0 : decode cX9_noteAt 0 = .ok (.bipush 71, 2) := by decide +kernel
theorem d233_2 : decode cX9_noteAt 2 = .ok (.iconst 3, 1) := by decide +kernel
theorem d233_3 : decode cX9_noteAt 3 = .ok (.iload_n 0, 1) := by decide +kernel
theorem d233_4 : decode cX9_noteAt 4 = .ok (.imul, 1) := by decide +kernel
theorem d233_5 : decode cX9_noteAt 5 = .ok (.iadd, 1) := by decide +kernel
theorem d233_6 : decode cX9_noteAt 6 = .ok (.iload_n 1, 1) := by decide +kernel
theorem d233_7 : decode cX9_noteAt 7 = .ok (.iadd, 1) := by decide +kernel
theorem d233_8 : decode cX9_noteAt 8 = .ok (.ireturn, 1) := by decide +kernel
theorem v233_0 {w : PW} {Q : PO → PW → Prop} {x0 : Int} {x1 : Int} (hs : Sh w) (hx0 : bd x0) (hx1 : bd x1) (h : Q (.inl (some (iv ((71 + (3 * x0)) + x1)))) w) : pX 233 0 [some (iv x0), some (iv x1)] [] w Q :=
  w_f b233 d233_0 rfl rfl rfl <| w_f b233 d233_2 rfl rfl rfl <| w_f b233 d233_3 rfl rfl rfl <| w_f b233 d233_4 rfl (pf_imul 3 x0) rfl <| w_f b233 d233_5 rfl (pf_iadd 71 (3 * x0)) rfl <| w_f b233 d233_6 rfl rfl rfl <| w_f b233 d233_7 rfl (pf_iadd (71 + (3 * x0)) x1) rfl <| w_ri b233 d233_8 r233 h
theorem e233 {w : PW} {Q : PO → PW → Prop} {x0 : Int} {x1 : Int} (hs : Sh w) (hx0 : bd x0) (hx1 : bd x1) (h : Q (.inl (some (iv ((71 + (3 * x0)) + x1)))) w) : pC 233 [iv x0, iv x1] w Q :=
  (pC_in (Nat.le_of_ble_eq_true rfl) rfl Q).mpr (v233_0 hs hx0 hx1 h)
theorem c233 {w : PW} {Q : PO → PW → Prop} {x0 x1 : Int} (hs : Sh w) (hx0 : bd x0) (hx1 : bd x1) (h : Q (.inl (some (iv ((71 + 3 * x0) + x1)))) w) : pC 233 [iv x0, iv x1] w Q := e233 hs hx0 hx1 h
/-! 236: PinBarrelModel.pinAt(II)I -/
theorem b236 : mB 236 = cX9_pinAt := rfl
theorem r236 : mR 236 = (some .int) := rfl
theorem p236 (a b : Nat) : phi 236 a ≤ phi 236 b := Nat.le_refl 0
theorem d236_0 : decode cX9_pinAt 0 = .ok (.sipush 251, 3) := by decide +kernel
theorem d236_3 : decode cX9_pinAt 3 = .ok (.bipush 64, 2) := by decide +kernel
theorem d236_5 : decode cX9_pinAt 5 = .ok (.iload_n 0, 1) := by decide +kernel
theorem d236_6 : decode cX9_pinAt 6 = .ok (.imul, 1) := by decide +kernel
theorem d236_7 : decode cX9_pinAt 7 = .ok (.iadd, 1) := by decide +kernel
theorem d236_8 : decode cX9_pinAt 8 = .ok (.iload_n 1, 1) := by decide +kernel
theorem d236_9 : decode cX9_pinAt 9 = .ok (.iadd, 1) := by decide +kernel
theorem d236_10 : decode cX9_pinAt 10 = .ok (.ireturn, 1) := by decide +kernel
theorem v236_0 {w : PW} {Q : PO → PW → Prop} {x0 : Int} {x1 : Int} (hs : Sh w) (hx0 : bd x0) (hx1 : bd x1) (h : Q (.inl (some (iv ((251 + (64 * x0)) + x1)))) w) : pX 236 0 [some (iv x0), some (iv x1)] [] w Q :=
  w_f b236 d236_0 rfl rfl rfl <| w_f b236 d236_3 rfl rfl rfl <| w_f b236 d236_5 rfl rfl rfl <| w_f b236 d236_6 rfl (pf_imul 64 x0) rfl <| w_f b236 d236_7 rfl (pf_iadd 251 (64 * x0)) rfl <| w_f b236 d236_8 rfl rfl rfl <| w_f b236 d236_9 rfl (pf_iadd (251 + (64 * x0)) x1) rfl <| w_ri b236 d236_10 r236 h
theorem e236 {w : PW} {Q : PO → PW → Prop} {x0 : Int} {x1 : Int} (hs : Sh w) (hx0 : bd x0) (hx1 : bd x1) (h : Q (.inl (some (iv ((251 + (64 * x0)) + x1)))) w) : pC 236 [iv x0, iv x1] w Q :=
  (pC_in (Nat.le_of_ble_eq_true rfl) rfl Q).mpr (v236_0 hs hx0 hx1 h)
theorem c236 {w : PW} {Q : PO → PW → Prop} {x0 x1 : Int} (hs : Sh w) (hx0 : bd x0) (hx1 : bd x1) (h : Q (.inl (some (iv ((251 + 64 * x0) + x1)))) w) : pC 236 [iv x0, iv x1] w Q := e236 hs hx0 hx1 h
/-! 245: PinBarrelModel.wrong(Z)Z -/
theorem b245 : mB 245 = cX9_wrong := rfl
theorem r245 : mR 245 = (some .boolean) := rfl
theorem p245 (a b : Nat) : phi 245 a ≤ phi 245 b := Nat.le_refl 0
theorem d245_0 : decode cX9_wrong 0 = .ok (.aload_n 0, 1) := by decide +kernel
theorem d245_1 : decode cX9_wrong 1 = .ok (.iload_n 1, 1) := by decide +kernel
theorem d245_2 : decode cX9_wrong 2 = .ok (.ifCond .eq 7, 3) := by decide +kernel
theorem d245_5 : decode cX9_wrong 5 = .ok (.iconst 1, 1) := by decide +kernel
theorem d245_6 : decode cX9_wrong 6 = .ok (.goto 4, 3) := by decide +kernel
theorem d245_9 : decode cX9_wrong 9 = .ok (.iconst 0, 1) := by decide +kernel
theorem d245_10 : decode cX9_wrong 10 = .ok (.putfield 50, 3) := by decide +kernel
theorem d245_13 : decode cX9_wrong 13 = .ok (.iload_n 1, 1) := by decide +kernel
theorem d245_14 : decode cX9_wrong 14 = .ok (.ireturn, 1) := by decide +kernel
theorem v245_0 {w : PW} {Q : PO → PW → Prop} {x1 : Int} (hs : Sh w) (hx1 : bd x1) (h : (x1 = 0 → ∀ w2 : PW, w2 = sI w 169 0 0 → (x1 = 0 ∨ x1 = 1) ∧ Q (.inl (some (iv x1))) w2) ∧ (x1 ≠ 0 → ∀ w3 : PW, w3 = sI w 169 0 1 → (x1 = 0 ∨ x1 = 1) ∧ Q (.inl (some (iv x1))) w3)) : pX 245 0 [some (.ref 169), some (iv x1)] [] w Q :=
  w_f b245 d245_0 rfl rfl rfl <| w_f b245 d245_1 rfl rfl rfl <| w_ifeq b245 d245_2 rfl rfl (p245 _ _) hx1 (fun c1 => w_f b245 d245_9 rfl rfl rfl <| w_pi b245 d245_10 rfl rfl hs (tlt 169 rfl) tbC_169 rfl rfl rfl <| w_f b245 d245_13 rfl rfl rfl <| w_rz b245 d245_14 r245 ((h.1 c1) _ rfl).1 ((h.1 c1) _ rfl).2) (fun c1 => w_f b245 d245_5 rfl rfl rfl <| w_j b245 d245_6 rfl (p245 _ _) <| w_pi b245 d245_10 rfl rfl hs (tlt 169 rfl) tbC_169 rfl rfl rfl <| w_f b245 d245_13 rfl rfl rfl <| w_rz b245 d245_14 r245 ((h.2 c1) _ rfl).1 ((h.2 c1) _ rfl).2)
theorem e245 {w : PW} {Q : PO → PW → Prop} {x1 : Int} (hs : Sh w) (hx1 : bd x1) (h : (x1 = 0 → ∀ w2 : PW, w2 = sI w 169 0 0 → (x1 = 0 ∨ x1 = 1) ∧ Q (.inl (some (iv x1))) w2) ∧ (x1 ≠ 0 → ∀ w3 : PW, w3 = sI w 169 0 1 → (x1 = 0 ∨ x1 = 1) ∧ Q (.inl (some (iv x1))) w3)) : pC 245 [.ref 169, iv x1] w Q :=
  (pC_in (Nat.le_of_ble_eq_true rfl) rfl Q).mpr (v245_0 hs hx1 h)
theorem c245 {w : PW} {Q : PO → PW → Prop} {x1 : Int} (hs : Sh w) (hx1 : bd x1) (hz : x1 = 0 ∨ x1 = 1) (h : Q (.inl (some (iv x1))) (sI w 169 0 x1)) : pC 245 [.ref 169, iv x1] w Q := by
  refine e245 hs hx1 ⟨fun q _ e => ⟨hz, ?_⟩, fun q _ e => ⟨hz, ?_⟩⟩
  · subst e; rw [q] at h ⊢; exact h
  · have q1 : x1 = 1 := hz.resolve_left q
    subst e; rw [q1] at h ⊢; exact h
/-! 249: PinBarrelModel.tracks()I -/
theorem b249 : mB 249 = cX9_tracks := rfl
theorem r249 : mR 249 = (some .int) := rfl
theorem p249 (a b : Nat) : phi 249 a ≤ phi 249 b := Nat.le_refl 0
theorem d249_0 : decode cX9_tracks 0 = .ok (.aload_n 0, 1) := by decide +kernel
theorem d249_1 : decode cX9_tracks 1 = .ok (.getfield 9, 3) := by decide +kernel
theorem d249_4 : decode cX9_tracks 4 = .ok (.iconst 1, 1) := by decide +kernel
theorem d249_5 : decode cX9_tracks 5 = .ok (.iaload, 1) := by decide +kernel
theorem d249_6 : decode cX9_tracks 6 = .ok (.aload_n 0, 1) := by decide +kernel
theorem d249_7 : decode cX9_tracks 7 = .ok (.getfield 9, 3) := by decide +kernel
theorem d249_10 : decode cX9_tracks 10 = .ok (.iconst 4, 1) := by decide +kernel
theorem d249_11 : decode cX9_tracks 11 = .ok (.iaload, 1) := by decide +kernel
theorem d249_12 : decode cX9_tracks 12 = .ok (.imul, 1) := by decide +kernel
theorem d249_13 : decode cX9_tracks 13 = .ok (.ireturn, 1) := by decide +kernel
theorem v249_0 {w : PW} {Q : PO → PW → Prop}  (hs : Sh w)  (h : Q (.inl (some (iv ((gI w 170 1) * (gI w 170 4))))) w) : pX 249 0 [some (.ref 169)] [] w Q :=
  w_f b249 d249_0 rfl rfl rfl <| w_gr b249 d249_1 rfl rfl hs (tlt 169 rfl) tbC_169 rfl (by decide) <| w_f b249 d249_4 rfl rfl rfl <| w_ial b249 d249_5 rfl hs (tlt 170 rfl) tbC_170 (bdix (n := 843) ⟨by decide, by decide⟩ rfl) ⟨by decide, by decide⟩ <| w_f b249 d249_6 rfl rfl rfl <| w_gr b249 d249_7 rfl rfl hs (tlt 169 rfl) tbC_169 rfl (by decide) <| w_f b249 d249_10 rfl rfl rfl <| w_ial b249 d249_11 rfl hs (tlt 170 rfl) tbC_170 (bdix (n := 843) ⟨by decide, by decide⟩ rfl) ⟨by decide, by decide⟩ <| w_f b249 d249_12 rfl (pf_imul (gI w 170 1) (gI w 170 4)) rfl <| w_ri b249 d249_13 r249 h
theorem e249 {w : PW} {Q : PO → PW → Prop}  (hs : Sh w)  (h : Q (.inl (some (iv ((gI w 170 1) * (gI w 170 4))))) w) : pC 249 [.ref 169] w Q :=
  (pC_in (Nat.le_of_ble_eq_true rfl) rfl Q).mpr (v249_0 hs  h)
theorem c249 {w : PW} {Q : PO → PW → Prop} (hs : Sh w) (h : Q (.inl (some (iv ((gI w 170 1) * (gI w 170 4))))) w) : pC 249 [.ref 169] w Q := e249 hs h
/-! 250: PinBarrelModel.has(II)Z -/
theorem b250 : mB 250 = cX9_has := rfl
theorem r250 : mR 250 = (some .boolean) := rfl
theorem p250 (a b : Nat) : phi 250 a ≤ phi 250 b := Nat.le_refl 0
theorem d250_0 : decode cX9_has 0 = .ok (.iload_n 0, 1) := by decide +kernel
theorem d250_1 : decode cX9_has 1 = .ok (.iload_n 1, 1) := by decide +kernel
theorem d250_2 : decode cX9_has 2 = .ok (.ishr, 1) := by decide +kernel
theorem d250_3 : decode cX9_has 3 = .ok (.iconst 1, 1) := by decide +kernel
theorem d250_4 : decode cX9_has 4 = .ok (.iand, 1) := by decide +kernel
theorem d250_5 : decode cX9_has 5 = .ok (.iconst 1, 1) := by decide +kernel
theorem d250_6 : decode cX9_has 6 = .ok (.if_icmp .ne 7, 3) := by decide +kernel
theorem d250_9 : decode cX9_has 9 = .ok (.iconst 1, 1) := by decide +kernel
theorem d250_10 : decode cX9_has 10 = .ok (.goto 4, 3) := by decide +kernel
theorem d250_13 : decode cX9_has 13 = .ok (.iconst 0, 1) := by decide +kernel
theorem d250_14 : decode cX9_has 14 = .ok (.ireturn, 1) := by decide +kernel
theorem v250_0 {w : PW} {Q : PO → PW → Prop} {x0 : Int} {x1 : Int} (hs : Sh w) (hx0 : bd x0) (hx1 : bd x1) (h : ((iAnd (iShr x0 x1) 1) ≠ 1 → Q (.inl (some (iv 0))) w) ∧ ((iAnd (iShr x0 x1) 1) = 1 → Q (.inl (some (iv 1))) w)) : pX 250 0 [some (iv x0), some (iv x1)] [] w Q :=
  w_f b250 d250_0 rfl rfl rfl <| w_f b250 d250_1 rfl rfl rfl <| w_f b250 d250_2 rfl (pf_ishr x0 x1) rfl <| w_f b250 d250_3 rfl rfl rfl <| w_f b250 d250_4 rfl (pf_iand (iShr x0 x1) 1) rfl <| w_f b250 d250_5 rfl rfl rfl <| w_icne b250 d250_6 rfl rfl (p250 _ _) (bd_toInt _) ⟨by decide, by decide⟩ (fun c1 => w_f b250 d250_13 rfl rfl rfl <| w_rz b250 d250_14 r250 (by decide) (h.1 c1)) (fun c1 => w_f b250 d250_9 rfl rfl rfl <| w_j b250 d250_10 rfl (p250 _ _) <| w_rz b250 d250_14 r250 (by decide) (h.2 c1))
theorem e250 {w : PW} {Q : PO → PW → Prop} {x0 : Int} {x1 : Int} (hs : Sh w) (hx0 : bd x0) (hx1 : bd x1) (h : ((iAnd (iShr x0 x1) 1) ≠ 1 → Q (.inl (some (iv 0))) w) ∧ ((iAnd (iShr x0 x1) 1) = 1 → Q (.inl (some (iv 1))) w)) : pC 250 [iv x0, iv x1] w Q :=
  (pC_in (Nat.le_of_ble_eq_true rfl) rfl Q).mpr (v250_0 hs hx0 hx1 h)
theorem c250 {w : PW} {Q : PO → PW → Prop} {x0 x1 : Int} (hs : Sh w) (hx0 : bd x0) (hx1 : bd x1) (hz : 0 ≤ x1 ∧ x1 < 32) (h : Q (.inl (some (iv (if tI x0 x1.toNat = true then 1 else 0)))) w) : pC 250 [iv x0, iv x1] w Q :=
  e250 hs hx0 hx1 ⟨fun q => by rw [if_neg (fun q2 => q ((tI_ask hz).mpr q2))] at h; exact h, fun q => by rw [if_pos ((tI_ask hz).mp q)] at h; exact h⟩
/-! 251: PinBarrelModel.isPin(III)Z -/
theorem b251 : mB 251 = cX9_isPin := rfl
theorem r251 : mR 251 = (some .boolean) := rfl
theorem p251 (a b : Nat) : phi 251 a ≤ phi 251 b := Nat.le_refl 0
theorem d251_0 : decode cX9_isPin 0 = .ok (.aload_n 0, 1) := by decide +kernel
theorem d251_1 : decode cX9_isPin 1 = .ok (.getfield 9, 3) := by decide +kernel
theorem d251_4 : decode cX9_isPin 4 = .ok (.iload_n 1, 1) := by decide +kernel
theorem d251_5 : decode cX9_isPin 5 = .ok (.iload_n 2, 1) := by decide +kernel
theorem d251_6 : decode cX9_isPin 6 = .ok (.invokestatic 213, 3) := by decide +kernel
theorem d251_9 : decode cX9_isPin 9 = .ok (.iaload, 1) := by decide +kernel
theorem d251_10 : decode cX9_isPin 10 = .ok (.iload_n 3, 1) := by decide +kernel
theorem d251_11 : decode cX9_isPin 11 = .ok (.invokestatic 216, 3) := by decide +kernel
theorem d251_14 : decode cX9_isPin 14 = .ok (.ireturn, 1) := by decide +kernel
theorem v251_0 {w : PW} {Q : PO → PW → Prop} {x1 : Int} {x2 : Int} {x3 : Int} (hs : Sh w) (hx1 : bd x1) (hx2 : bd x2) (hx3 : bd x3) (h : (0 ≤ ((251 + 64 * x1) + x2) ∧ ((251 + 64 * x1) + x2) < 843) ∧ (0 ≤ x3 ∧ x3 < 32) ∧ Q (.inl (some (iv (if tI (gI w 170 ((251 + 64 * x1) + x2).toNat) (x3).toNat = true then 1 else 0)))) w) : pX 251 0 [some (.ref 169), some (iv x1), some (iv x2), some (iv x3)] [] w Q :=
  w_f b251 d251_0 rfl rfl rfl <| w_gr b251 d251_1 rfl rfl hs (tlt 169 rfl) tbC_169 rfl (by decide) <| w_f b251 d251_4 rfl rfl rfl <| w_f b251 d251_5 rfl rfl rfl <| w_cc b251 d251_6 rfl (pcl_s1 (n := 2) rfl rfl rfl (by decide +kernel) rfl rfl) rfl <| c236 hs hx1 hx2 <| w_ial b251 d251_9 rfl hs (tlt 170 rfl) tbC_170 (bdix (n := 843) h.1 rfl) h.1 <| w_f b251 d251_10 rfl rfl rfl <| w_cc b251 d251_11 rfl (pcl_s1 (n := 2) rfl rfl rfl (by decide +kernel) rfl rfl) rfl <| c250 hs (bd_gI _ _ _) hx3 h.2.1 <| w_rz b251 d251_14 r251 (zor _) h.2.2
theorem e251 {w : PW} {Q : PO → PW → Prop} {x1 : Int} {x2 : Int} {x3 : Int} (hs : Sh w) (hx1 : bd x1) (hx2 : bd x2) (hx3 : bd x3) (h : (0 ≤ ((251 + 64 * x1) + x2) ∧ ((251 + 64 * x1) + x2) < 843) ∧ (0 ≤ x3 ∧ x3 < 32) ∧ Q (.inl (some (iv (if tI (gI w 170 ((251 + 64 * x1) + x2).toNat) (x3).toNat = true then 1 else 0)))) w) : pC 251 [.ref 169, iv x1, iv x2, iv x3] w Q :=
  (pC_in (Nat.le_of_ble_eq_true rfl) rfl Q).mpr (v251_0 hs hx1 hx2 hx3 h)
theorem c251 {w : PW} {Q : PO → PW → Prop} {x1 x2 x3 : Int} (hs : Sh w) (hx1 : bd x1) (hx2 : bd x2) (hx3 : bd x3) (_ : bd ((251 + 64 * x1) + x2)) (h1 : 0 ≤ (251 + 64 * x1) + x2 ∧ (251 + 64 * x1) + x2 < 843) (h2 : 0 ≤ x3 ∧ x3 < 32) (h : Q (.inl (some (iv (if tI (gI w 170 ((251 + 64 * x1) + x2).toNat) x3.toNat = true then 1 else 0)))) w) : pC 251 [.ref 169, iv x1, iv x2, iv x3] w Q := e251 hs hx1 hx2 hx3 ⟨h1, h2, h⟩
/-! 252: PinBarrelModel.onTrack(II)Z -/
theorem b252 : mB 252 = cX9_onTrack := rfl
theorem r252 : mR 252 = (some .boolean) := rfl
theorem p252 (a b : Nat) : phi 252 a ≤ phi 252 b := Nat.le_refl 0
theorem d252_0 : decode cX9_onTrack 0 = .ok (.aload_n 0, 1) := by decide +kernel
theorem d252_1 : decode cX9_onTrack 1 = .ok (.iload_n 1, 1) := by decide +kernel
theorem d252_2 : decode cX9_onTrack 2 = .ok (.aload_n 0, 1) := by decide +kernel
theorem d252_3 : decode cX9_onTrack 3 = .ok (.getfield 9, 3) := by decide +kernel
theorem d252_6 : decode cX9_onTrack 6 = .ok (.iconst 1, 1) := by decide +kernel
theorem d252_7 : decode cX9_onTrack 7 = .ok (.iaload, 1) := by decide +kernel
theorem d252_8 : decode cX9_onTrack 8 = .ok (.irem, 1) := by decide +kernel
theorem d252_9 : decode cX9_onTrack 9 = .ok (.iload_n 2, 1) := by decide +kernel
theorem d252_10 : decode cX9_onTrack 10 = .ok (.iload_n 1, 1) := by decide +kernel
theorem d252_11 : decode cX9_onTrack 11 = .ok (.aload_n 0, 1) := by decide +kernel
theorem d252_12 : decode cX9_onTrack 12 = .ok (.getfield 9, 3) := by decide +kernel
theorem d252_15 : decode cX9_onTrack 15 = .ok (.iconst 1, 1) := by decide +kernel
theorem d252_16 : decode cX9_onTrack 16 = .ok (.iaload, 1) := by decide +kernel
theorem d252_17 : decode cX9_onTrack 17 = .ok (.idiv, 1) := by decide +kernel
theorem d252_18 : decode cX9_onTrack 18 = .ok (.invokevirtual 228, 3) := by decide +kernel
theorem d252_21 : decode cX9_onTrack 21 = .ok (.ireturn, 1) := by decide +kernel
theorem v252_0 {w : PW} {Q : PO → PW → Prop} {x1 : Int} {x2 : Int} (hs : Sh w) (hx1 : bd x1) (hx2 : bd x2) (h : (0 < (gI w 170 1) ∧ (gI w 170 1) < 2147483648) ∧ (0 < (gI w 170 1) ∧ (gI w 170 1) < 2147483648) ∧ (bd (x1.tmod (gI w 170 1))) ∧ (bd (x1.tdiv (gI w 170 1))) ∧ (bd ((251 + 64 * (x1.tmod (gI w 170 1))) + x2)) ∧ (0 ≤ (251 + 64 * (x1.tmod (gI w 170 1))) + x2 ∧ (251 + 64 * (x1.tmod (gI w 170 1))) + x2 < 843) ∧ (0 ≤ (x1.tdiv (gI w 170 1)) ∧ (x1.tdiv (gI w 170 1)) < 32) ∧ Q (.inl (some (iv (if tI (gI w 170 ((251 + 64 * (x1.tmod (gI w 170 1))) + x2).toNat) ((x1.tdiv (gI w 170 1))).toNat = true then 1 else 0)))) w) : pX 252 0 [some (.ref 169), some (iv x1), some (iv x2)] [] w Q :=
  w_f b252 d252_0 rfl rfl rfl <| w_f b252 d252_1 rfl rfl rfl <| w_f b252 d252_2 rfl rfl rfl <| w_gr b252 d252_3 rfl rfl hs (tlt 169 rfl) tbC_169 rfl (by decide) <| w_f b252 d252_6 rfl rfl rfl <| w_ial b252 d252_7 rfl hs (tlt 170 rfl) tbC_170 (bdix (n := 843) ⟨by decide, by decide⟩ rfl) ⟨by decide, by decide⟩ <| w_f b252 d252_8 rfl (pf_irem hx1 h.1) rfl <| w_f b252 d252_9 rfl rfl rfl <| w_f b252 d252_10 rfl rfl rfl <| w_f b252 d252_11 rfl rfl rfl <| w_gr b252 d252_12 rfl rfl hs (tlt 169 rfl) tbC_169 rfl (by decide) <| w_f b252 d252_15 rfl rfl rfl <| w_ial b252 d252_16 rfl hs (tlt 170 rfl) tbC_170 (bdix (n := 843) ⟨by decide, by decide⟩ rfl) ⟨by decide, by decide⟩ <| w_f b252 d252_17 rfl (pf_idiv hx1 h.2.1) rfl <| w_cc b252 d252_18 rfl (pcl_v (n := 3) rfl rfl rfl (by decide +kernel) (sh_isOb hs (tlt 169 rfl) tbC_169) rfl rfl) rfl <| c251 hs h.2.2.1 hx2 h.2.2.2.1 h.2.2.2.2.1 h.2.2.2.2.2.1 h.2.2.2.2.2.2.1 <| w_rz b252 d252_21 r252 (zor _) h.2.2.2.2.2.2.2
theorem e252 {w : PW} {Q : PO → PW → Prop} {x1 : Int} {x2 : Int} (hs : Sh w) (hx1 : bd x1) (hx2 : bd x2) (h : (0 < (gI w 170 1) ∧ (gI w 170 1) < 2147483648) ∧ (0 < (gI w 170 1) ∧ (gI w 170 1) < 2147483648) ∧ (bd (x1.tmod (gI w 170 1))) ∧ (bd (x1.tdiv (gI w 170 1))) ∧ (bd ((251 + 64 * (x1.tmod (gI w 170 1))) + x2)) ∧ (0 ≤ (251 + 64 * (x1.tmod (gI w 170 1))) + x2 ∧ (251 + 64 * (x1.tmod (gI w 170 1))) + x2 < 843) ∧ (0 ≤ (x1.tdiv (gI w 170 1)) ∧ (x1.tdiv (gI w 170 1)) < 32) ∧ Q (.inl (some (iv (if tI (gI w 170 ((251 + 64 * (x1.tmod (gI w 170 1))) + x2).toNat) ((x1.tdiv (gI w 170 1))).toNat = true then 1 else 0)))) w) : pC 252 [.ref 169, iv x1, iv x2] w Q :=
  (pC_in (Nat.le_of_ble_eq_true rfl) rfl Q).mpr (v252_0 hs hx1 hx2 h)
theorem c252 {w : PW} {Q : PO → PW → Prop} {x1 x2 : Int} (hs : Sh w) (hx1 : bd x1) (hx2 : bd x2) (hU : 1 ≤ gI w 170 1 ∧ gI w 170 1 ≤ 3) (h1 : 0 ≤ x1 ∧ x1 < 12 * gI w 170 1) (h2 : 0 ≤ x2 ∧ x2 < 64) (h : Q (.inl (some (iv (if mOn w x1 x2 = true then 1 else 0)))) w) : pC 252 [.ref 169, iv x1, iv x2] w Q := by
  refine e252 hs hx1 hx2 ?_
  unfold mOn at h
  rw [Int.tmod_eq_emod_of_nonneg h1.1, Int.tdiv_eq_ediv_of_nonneg h1.1]
  have e1 : 0 ≤ x1 % gI w 170 1 := Int.emod_nonneg _ (by omega)
  have e2 : x1 % gI w 170 1 < gI w 170 1 := Int.emod_lt_of_pos _ (by omega)
  have e3 : 0 ≤ x1 / gI w 170 1 := Int.ediv_nonneg h1.1 (by omega)
  have e4 : x1 / gI w 170 1 < 12 := Int.ediv_lt_of_lt_mul (by omega) h1.2
  exact ⟨⟨by omega, by omega⟩, ⟨by omega, by omega⟩, ⟨by omega, by omega⟩, ⟨by omega, by omega⟩, ⟨by omega, by omega⟩, ⟨by omega, by omega⟩, ⟨by omega, by omega⟩, h⟩
/-! 253: PinBarrelModel.way(II)I -/
theorem b253 : mB 253 = cX9_way := rfl
theorem r253 : mR 253 = (some .int) := rfl
theorem p253 (a b : Nat) : phi 253 a ≤ phi 253 b := Nat.le_refl 0
theorem d253_0 : decode cX9_way 0 = .ok (.iload_n 2, 1) := by decide +kernel
theorem d253_1 : decode cX9_way 1 = .ok (.iload_n 1, 1) := by decide +kernel
theorem d253_2 : decode cX9_way 2 = .ok (.isub, 1) := by decide +kernel
theorem d253_3 : decode cX9_way 3 = .ok (.aload_n 0, 1) := by decide +kernel
theorem d253_4 : decode cX9_way 4 = .ok (.getfield 9, 3) := by decide +kernel
theorem d253_7 : decode cX9_way 7 = .ok (.iconst 0, 1) := by decide +kernel
theorem d253_8 : decode cX9_way 8 = .ok (.iaload, 1) := by decide +kernel
theorem d253_9 : decode cX9_way 9 = .ok (.iadd, 1) := by decide +kernel
theorem d253_10 : decode cX9_way 10 = .ok (.aload_n 0, 1) := by decide +kernel
theorem d253_11 : decode cX9_way 11 = .ok (.getfield 9, 3) := by decide +kernel
theorem d253_14 : decode cX9_way 14 = .ok (.iconst 0, 1) := by decide +kernel
theorem d253_15 : decode cX9_way 15 = .ok (.iaload, 1) := by decide +kernel
theorem d253_16 : decode cX9_way 16 = .ok (.irem, 1) := by decide +kernel
theorem d253_17 : decode cX9_way 17 = .ok (.istore_n 3, 1) := by decide +kernel
theorem d253_18 : decode cX9_way 18 = .ok (.iload_n 3, 1) := by decide +kernel
theorem d253_19 : decode cX9_way 19 = .ok (.ifCond .ne 12, 3) := by decide +kernel
theorem d253_22 : decode cX9_way 22 = .ok (.aload_n 0, 1) := by decide +kernel
theorem d253_23 : decode cX9_way 23 = .ok (.getfield 9, 3) := by decide +kernel
theorem d253_26 : decode cX9_way 26 = .ok (.iconst 0, 1) := by decide +kernel
theorem d253_27 : decode cX9_way 27 = .ok (.iaload, 1) := by decide +kernel
theorem d253_28 : decode cX9_way 28 = .ok (.goto 4, 3) := by decide +kernel
theorem d253_31 : decode cX9_way 31 = .ok (.iload_n 3, 1) := by decide +kernel
theorem d253_32 : decode cX9_way 32 = .ok (.ireturn, 1) := by decide +kernel
theorem v253_0 {w : PW} {Q : PO → PW → Prop} {x1 : Int} {x2 : Int} (hs : Sh w) (hx1 : bd x1) (hx2 : bd x2) (h : (bd ((x2 - x1) + (gI w 170 0))) ∧ (0 < (gI w 170 0) ∧ (gI w 170 0) < 2147483648) ∧ (bd (((x2 - x1) + (gI w 170 0)).tmod (gI w 170 0))) ∧ ((((x2 - x1) + (gI w 170 0)).tmod (gI w 170 0)) ≠ 0 → Q (.inl (some (iv (((x2 - x1) + (gI w 170 0)).tmod (gI w 170 0))))) w) ∧ ((((x2 - x1) + (gI w 170 0)).tmod (gI w 170 0)) = 0 → Q (.inl (some (iv (gI w 170 0)))) w)) : pX 253 0 [some (.ref 169), some (iv x1), some (iv x2), none] [] w Q :=
  w_f b253 d253_0 rfl rfl rfl <| w_f b253 d253_1 rfl rfl rfl <| w_f b253 d253_2 rfl (pf_isub x2 x1) rfl <| w_f b253 d253_3 rfl rfl rfl <| w_gr b253 d253_4 rfl rfl hs (tlt 169 rfl) tbC_169 rfl (by decide) <| w_f b253 d253_7 rfl rfl rfl <| w_ial b253 d253_8 rfl hs (tlt 170 rfl) tbC_170 (bdix (n := 843) ⟨by decide, by decide⟩ rfl) ⟨by decide, by decide⟩ <| w_f b253 d253_9 rfl (pf_iadd (x2 - x1) (gI w 170 0)) rfl <| w_f b253 d253_10 rfl rfl rfl <| w_gr b253 d253_11 rfl rfl hs (tlt 169 rfl) tbC_169 rfl (by decide) <| w_f b253 d253_14 rfl rfl rfl <| w_ial b253 d253_15 rfl hs (tlt 170 rfl) tbC_170 (bdix (n := 843) ⟨by decide, by decide⟩ rfl) ⟨by decide, by decide⟩ <| w_f b253 d253_16 rfl (pf_irem h.1 h.2.1) rfl <| w_f b253 d253_17 rfl rfl rfl <| w_f b253 d253_18 rfl rfl rfl <| w_ifne b253 d253_19 rfl rfl (p253 _ _) h.2.2.1 (fun c1 => w_f b253 d253_31 rfl rfl rfl <| w_ri b253 d253_32 r253 (h.2.2.2.1 c1)) (fun c1 => w_f b253 d253_22 rfl rfl rfl <| w_gr b253 d253_23 rfl rfl hs (tlt 169 rfl) tbC_169 rfl (by decide) <| w_f b253 d253_26 rfl rfl rfl <| w_ial b253 d253_27 rfl hs (tlt 170 rfl) tbC_170 (bdix (n := 843) ⟨by decide, by decide⟩ rfl) ⟨by decide, by decide⟩ <| w_j b253 d253_28 rfl (p253 _ _) <| w_ri b253 d253_32 r253 (h.2.2.2.2 c1))
theorem e253 {w : PW} {Q : PO → PW → Prop} {x1 : Int} {x2 : Int} (hs : Sh w) (hx1 : bd x1) (hx2 : bd x2) (h : (bd ((x2 - x1) + (gI w 170 0))) ∧ (0 < (gI w 170 0) ∧ (gI w 170 0) < 2147483648) ∧ (bd (((x2 - x1) + (gI w 170 0)).tmod (gI w 170 0))) ∧ ((((x2 - x1) + (gI w 170 0)).tmod (gI w 170 0)) ≠ 0 → Q (.inl (some (iv (((x2 - x1) + (gI w 170 0)).tmod (gI w 170 0))))) w) ∧ ((((x2 - x1) + (gI w 170 0)).tmod (gI w 170 0)) = 0 → Q (.inl (some (iv (gI w 170 0)))) w)) : pC 253 [.ref 169, iv x1, iv x2] w Q :=
  (pC_in (Nat.le_of_ble_eq_true rfl) rfl Q).mpr (v253_0 hs hx1 hx2 h)
theorem c253 {w : PW} {Q : PO → PW → Prop} {x1 x2 : Int} (hs : Sh w) (hx1 : bd x1) (hx2 : bd x2) (hS : 0 < gI w 170 0 ∧ gI w 170 0 ≤ 64) (h1 : 0 ≤ x1 ∧ x1 < gI w 170 0) (h2 : 0 ≤ x2 ∧ x2 < gI w 170 0) (h : Q (.inl (some (iv (wayI (gI w 170 0) x1 x2)))) w) : pC 253 [.ref 169, iv x1, iv x2] w Q := by
  refine e253 hs hx1 hx2 ?_
  have h0 : 0 ≤ x2 - x1 + gI w 170 0 := by omega
  rw [Int.tmod_eq_emod_of_nonneg h0]
  have e1 : 0 ≤ (x2 - x1 + gI w 170 0) % gI w 170 0 := Int.emod_nonneg _ (by omega)
  have e2 : (x2 - x1 + gI w 170 0) % gI w 170 0 < gI w 170 0 := Int.emod_lt_of_pos _ (by omega)
  have e3 : (x2 - x1 + gI w 170 0) % gI w 170 0 = if x2 < x1 then x2 - x1 + gI w 170 0 else x2 - x1 := by
    rw [Int.add_emod_right]
    by_cases q : x2 < x1
    · rw [if_pos q, ← Int.add_emod_right]
      exact Int.emod_eq_of_lt h0 (by omega)
    · rw [if_neg q]
      exact Int.emod_eq_of_lt (by omega) (by omega)
  refine ⟨⟨by omega, by omega⟩, ⟨by omega, by omega⟩, ⟨by omega, by omega⟩, fun q => ?_, fun q => ?_⟩
  · rw [e3] at q ⊢
    unfold wayI at h
    by_cases q2 : x2 < x1
    · rw [if_pos q2]; rw [if_pos (by omega)] at h; exact h
    · rw [if_neg q2] at q ⊢; rw [if_neg (by omega)] at h; exact h
  · rw [e3] at q
    unfold wayI at h
    by_cases q2 : x2 < x1
    · rw [if_pos q2] at q; omega
    · rw [if_neg q2] at q
      rw [if_pos (by omega), show x2 - x1 + gI w 170 0 = gI w 170 0 from by omega] at h; exact h
/-! 254: PinBarrelModel.isNear(III)Z -/
theorem b254 : mB 254 = cX9_isNear := rfl
theorem r254 : mR 254 = (some .boolean) := rfl
theorem p254 (a b : Nat) : phi 254 a ≤ phi 254 b := Nat.le_refl 0
theorem d254_0 : decode cX9_isNear 0 = .ok (.iload_n 1, 1) := by decide +kernel
theorem d254_1 : decode cX9_isNear 1 = .ok (.iload_n 2, 1) := by decide +kernel
theorem d254_2 : decode cX9_isNear 2 = .ok (.if_icmp .ne 13, 3) := by decide +kernel
theorem d254_5 : decode cX9_isNear 5 = .ok (.iload_n 3, 1) := by decide +kernel
theorem d254_6 : decode cX9_isNear 6 = .ok (.ifCond .le 7, 3) := by decide +kernel
theorem d254_9 : decode cX9_isNear 9 = .ok (.iconst 1, 1) := by decide +kernel
theorem d254_10 : decode cX9_isNear 10 = .ok (.goto 4, 3) := by decide +kernel
theorem d254_13 : decode cX9_isNear 13 = .ok (.iconst 0, 1) := by decide +kernel
theorem d254_14 : decode cX9_isNear 14 = .ok (.ireturn, 1) := by decide +kernel
theorem d254_15 : decode cX9_isNear 15 = .ok (.aload_n 0, 1) := by decide +kernel
theorem d254_16 : decode cX9_isNear 16 = .ok (.iload_n 1, 1) := by decide +kernel
theorem d254_17 : decode cX9_isNear 17 = .ok (.iload_n 2, 1) := by decide +kernel
theorem d254_18 : decode cX9_isNear 18 = .ok (.invokevirtual 231, 3) := by decide +kernel
theorem d254_21 : decode cX9_isNear 21 = .ok (.iload_n 3, 1) := by decide +kernel
theorem d254_22 : decode cX9_isNear 22 = .ok (.if_icmp .lt 13, 3) := by decide +kernel
theorem d254_25 : decode cX9_isNear 25 = .ok (.aload_n 0, 1) := by decide +kernel
theorem d254_26 : decode cX9_isNear 26 = .ok (.iload_n 2, 1) := by decide +kernel
theorem d254_27 : decode cX9_isNear 27 = .ok (.iload_n 1, 1) := by decide +kernel
theorem d254_28 : decode cX9_isNear 28 = .ok (.invokevirtual 231, 3) := by decide +kernel
theorem d254_31 : decode cX9_isNear 31 = .ok (.iload_n 3, 1) := by decide +kernel
theorem d254_32 : decode cX9_isNear 32 = .ok (.if_icmp .ge 7, 3) := by decide +kernel
theorem d254_35 : decode cX9_isNear 35 = .ok (.iconst 1, 1) := by decide +kernel
theorem d254_36 : decode cX9_isNear 36 = .ok (.goto 4, 3) := by decide +kernel
theorem d254_39 : decode cX9_isNear 39 = .ok (.iconst 0, 1) := by decide +kernel
theorem d254_40 : decode cX9_isNear 40 = .ok (.ireturn, 1) := by decide +kernel
theorem v254_0 {w : PW} {Q : PO → PW → Prop} {x1 : Int} {x2 : Int} {x3 : Int} (hs : Sh w) (hx1 : bd x1) (hx2 : bd x2) (hx3 : bd x3) (h : (x1 ≠ x2 → (0 < gI w 170 0 ∧ gI w 170 0 ≤ 64) ∧ (0 ≤ x1 ∧ x1 < gI w 170 0) ∧ (0 ≤ x2 ∧ x2 < gI w 170 0) ∧ (bd (wayI (gI w 170 0) x1 x2)) ∧ ((wayI (gI w 170 0) x1 x2) < x3 → Q (.inl (some (iv 1))) w) ∧ (x3 ≤ (wayI (gI w 170 0) x1 x2) → (0 < gI w 170 0 ∧ gI w 170 0 ≤ 64) ∧ (0 ≤ x2 ∧ x2 < gI w 170 0) ∧ (0 ≤ x1 ∧ x1 < gI w 170 0) ∧ (bd (wayI (gI w 170 0) x2 x1)) ∧ (x3 ≤ (wayI (gI w 170 0) x2 x1) → Q (.inl (some (iv 0))) w) ∧ ((wayI (gI w 170 0) x2 x1) < x3 → Q (.inl (some (iv 1))) w))) ∧ (x1 = x2 → (x3 ≤ 0 → Q (.inl (some (iv 0))) w) ∧ (0 < x3 → Q (.inl (some (iv 1))) w))) : pX 254 0 [some (.ref 169), some (iv x1), some (iv x2), some (iv x3)] [] w Q :=
  w_f b254 d254_0 rfl rfl rfl <| w_f b254 d254_1 rfl rfl rfl <| w_icne b254 d254_2 rfl rfl (p254 _ _) hx1 hx2 (fun c1 => w_f b254 d254_15 rfl rfl rfl <| w_f b254 d254_16 rfl rfl rfl <| w_f b254 d254_17 rfl rfl rfl <| w_cc b254 d254_18 rfl (pcl_v (n := 2) rfl rfl rfl (by decide +kernel) (sh_isOb hs (tlt 169 rfl) tbC_169) rfl rfl) rfl <| c253 hs hx1 hx2 (h.1 c1).1 (h.1 c1).2.1 (h.1 c1).2.2.1 <| w_f b254 d254_21 rfl rfl rfl <| w_iclt b254 d254_22 rfl rfl (p254 _ _) (h.1 c1).2.2.2.1 hx3 (fun c2 => w_f b254 d254_35 rfl rfl rfl <| w_j b254 d254_36 rfl (p254 _ _) <| w_rz b254 d254_40 r254 (by decide) ((h.1 c1).2.2.2.2.1 c2)) (fun c2 => w_f b254 d254_25 rfl rfl rfl <| w_f b254 d254_26 rfl rfl rfl <| w_f b254 d254_27 rfl rfl rfl <| w_cc b254 d254_28 rfl (pcl_v (n := 2) rfl rfl rfl (by decide +kernel) (sh_isOb hs (tlt 169 rfl) tbC_169) rfl rfl) rfl <| c253 hs hx2 hx1 ((h.1 c1).2.2.2.2.2 c2).1 ((h.1 c1).2.2.2.2.2 c2).2.1 ((h.1 c1).2.2.2.2.2 c2).2.2.1 <| w_f b254 d254_31 rfl rfl rfl <| w_icge b254 d254_32 rfl rfl (p254 _ _) ((h.1 c1).2.2.2.2.2 c2).2.2.2.1 hx3 (fun c3 => w_f b254 d254_39 rfl rfl rfl <| w_rz b254 d254_40 r254 (by decide) (((h.1 c1).2.2.2.2.2 c2).2.2.2.2.1 c3)) (fun c3 => w_f b254 d254_35 rfl rfl rfl <| w_j b254 d254_36 rfl (p254 _ _) <| w_rz b254 d254_40 r254 (by decide) (((h.1 c1).2.2.2.2.2 c2).2.2.2.2.2 c3)))) (fun c1 => w_f b254 d254_5 rfl rfl rfl <| w_ifle b254 d254_6 rfl rfl (p254 _ _) hx3 (fun c4 => w_f b254 d254_13 rfl rfl rfl <| w_rz b254 d254_14 r254 (by decide) ((h.2 c1).1 c4)) (fun c4 => w_f b254 d254_9 rfl rfl rfl <| w_j b254 d254_10 rfl (p254 _ _) <| w_rz b254 d254_14 r254 (by decide) ((h.2 c1).2 c4)))
theorem e254 {w : PW} {Q : PO → PW → Prop} {x1 : Int} {x2 : Int} {x3 : Int} (hs : Sh w) (hx1 : bd x1) (hx2 : bd x2) (hx3 : bd x3) (h : (x1 ≠ x2 → (0 < gI w 170 0 ∧ gI w 170 0 ≤ 64) ∧ (0 ≤ x1 ∧ x1 < gI w 170 0) ∧ (0 ≤ x2 ∧ x2 < gI w 170 0) ∧ (bd (wayI (gI w 170 0) x1 x2)) ∧ ((wayI (gI w 170 0) x1 x2) < x3 → Q (.inl (some (iv 1))) w) ∧ (x3 ≤ (wayI (gI w 170 0) x1 x2) → (0 < gI w 170 0 ∧ gI w 170 0 ≤ 64) ∧ (0 ≤ x2 ∧ x2 < gI w 170 0) ∧ (0 ≤ x1 ∧ x1 < gI w 170 0) ∧ (bd (wayI (gI w 170 0) x2 x1)) ∧ (x3 ≤ (wayI (gI w 170 0) x2 x1) → Q (.inl (some (iv 0))) w) ∧ ((wayI (gI w 170 0) x2 x1) < x3 → Q (.inl (some (iv 1))) w))) ∧ (x1 = x2 → (x3 ≤ 0 → Q (.inl (some (iv 0))) w) ∧ (0 < x3 → Q (.inl (some (iv 1))) w))) : pC 254 [.ref 169, iv x1, iv x2, iv x3] w Q :=
  (pC_in (Nat.le_of_ble_eq_true rfl) rfl Q).mpr (v254_0 hs hx1 hx2 hx3 h)
theorem c254 {w : PW} {Q : PO → PW → Prop} {x1 x2 x3 : Int} (hs : Sh w) (hx1 : bd x1) (hx2 : bd x2) (hx3 : bd x3) (hS : 0 < gI w 170 0 ∧ gI w 170 0 ≤ 64) (h1 : 0 ≤ x1 ∧ x1 < gI w 170 0) (h2 : 0 ≤ x2 ∧ x2 < gI w 170 0) (h : Q (.inl (some (iv (if nearI (gI w 170 0) x1 x2 x3 = true then 1 else 0)))) w) : pC 254 [.ref 169, iv x1, iv x2, iv x3] w Q := by
  have hw : ∀ a b : Int, 0 ≤ a ∧ a < gI w 170 0 → 0 ≤ b ∧ b < gI w 170 0 → bd (wayI (gI w 170 0) a b) := by
    intro a b ha hb
    unfold wayI
    split <;> exact ⟨by omega, by omega⟩
  unfold nearI at h
  simp only [decide_eq_true_eq] at h
  refine e254 hs hx1 hx2 hx3 ⟨fun q => ⟨hS, h1, h2, hw _ _ h1 h2, fun q2 => ?_, fun q2 => ⟨hS, h2, h1, hw _ _ h2 h1, fun q3 => ?_, fun q3 => ?_⟩⟩, fun q => ⟨fun q2 => ?_, fun q2 => ?_⟩⟩
  · rw [if_pos (Or.inr ⟨q, Or.inl q2⟩)] at h; exact h
  · rw [if_neg (fun z => z.elim (fun z => q z.1) (fun z => z.2.elim (fun z => by omega) (fun z => by omega)))] at h; exact h
  · rw [if_pos (Or.inr ⟨q, Or.inr q3⟩)] at h; exact h
  · rw [if_neg (fun z => z.elim (fun z => by omega) (fun z => z.1 q))] at h; exact h
  · rw [if_pos (Or.inl ⟨q, q2⟩)] at h; exact h
/-! 258: PinBarrelModel.isTooth(I)Z -/
theorem b258 : mB 258 = cX9_isTooth := rfl
theorem r258 : mR 258 = (some .boolean) := rfl
theorem p258 (a b : Nat) : phi 258 a ≤ phi 258 b := Nat.le_refl 0
theorem d258_0 : decode cX9_isTooth 0 = .ok (.iload_n 1, 1) := by decide +kernel
theorem d258_1 : decode cX9_isTooth 1 = .ok (.i2l, 1) := by decide +kernel
theorem d258_2 : decode cX9_isTooth 2 = .ok (.lconst 0, 1) := by decide +kernel
theorem d258_3 : decode cX9_isTooth 3 = .ok (.aload_n 0, 1) := by decide +kernel
theorem d258_4 : decode cX9_isTooth 4 = .ok (.getfield 9, 3) := by decide +kernel
theorem d258_7 : decode cX9_isTooth 7 = .ok (.iconst 4, 1) := by decide +kernel
theorem d258_8 : decode cX9_isTooth 8 = .ok (.iaload, 1) := by decide +kernel
theorem d258_9 : decode cX9_isTooth 9 = .ok (.iconst 1, 1) := by decide +kernel
theorem d258_10 : decode cX9_isTooth 10 = .ok (.isub, 1) := by decide +kernel
theorem d258_11 : decode cX9_isTooth 11 = .ok (.i2l, 1) := by decide +kernel
theorem d258_12 : decode cX9_isTooth 12 = .ok (.invokestatic 81, 3) := by decide +kernel
theorem d258_15 : decode cX9_isTooth 15 = .ok (.ireturn, 1) := by decide +kernel
theorem v258_0 {w : PW} {Q : PO → PW → Prop} {x1 : Int} (hs : Sh w) (hx1 : bd x1) (h : Q (.inl (some (iv (if ((0 : Int64)).toInt ≤ (i2L x1).toInt ∧ (i2L x1).toInt ≤ (i2L ((gI w 170 4) - 1)).toInt then 1 else 0)))) w) : pX 258 0 [some (.ref 169), some (iv x1)] [] w Q :=
  w_f b258 d258_0 rfl rfl rfl <| w_f b258 d258_1 rfl rfl rfl <| w_f b258 d258_2 rfl rfl rfl <| w_f b258 d258_3 rfl rfl rfl <| w_gr b258 d258_4 rfl rfl hs (tlt 169 rfl) tbC_169 rfl (by decide) <| w_f b258 d258_7 rfl rfl rfl <| w_ial b258 d258_8 rfl hs (tlt 170 rfl) tbC_170 (bdix (n := 843) ⟨by decide, by decide⟩ rfl) ⟨by decide, by decide⟩ <| w_f b258 d258_9 rfl rfl rfl <| w_f b258 d258_10 rfl (pf_isub (gI w 170 4) 1) rfl <| w_f b258 d258_11 rfl rfl rfl <| w_cc b258 d258_12 rfl (pcl_s1 (n := 3) rfl rfl rfl (by decide +kernel) rfl rfl) rfl <| c221 hs <| w_rz b258 d258_15 r258 (zor _) h
theorem e258 {w : PW} {Q : PO → PW → Prop} {x1 : Int} (hs : Sh w) (hx1 : bd x1) (h : Q (.inl (some (iv (if ((0 : Int64)).toInt ≤ (i2L x1).toInt ∧ (i2L x1).toInt ≤ (i2L ((gI w 170 4) - 1)).toInt then 1 else 0)))) w) : pC 258 [.ref 169, iv x1] w Q :=
  (pC_in (Nat.le_of_ble_eq_true rfl) rfl Q).mpr (v258_0 hs hx1 h)
theorem c258 {w : PW} {Q : PO → PW → Prop} {x1 : Int} (hs : Sh w) (hx1 : bd x1) (hp : bd ((gI w 170 4) - 1)) (h : Q (.inl (some (iv (if 0 ≤ x1 ∧ x1 < gI w 170 4 then 1 else 0)))) w) : pC 258 [.ref 169, iv x1] w Q := by
  refine e258 hs hx1 ?_
  rw [i2L_toInt hx1, i2L_toInt hp, show (0 : Int64).toInt = 0 from by decide]
  by_cases q : 0 ≤ x1 ∧ x1 < gI w 170 4
  · rw [if_pos q] at h; rw [if_pos (by omega)]; exact h
  · rw [if_neg q] at h; rw [if_neg (by omega)]; exact h
/-! 259: PinBarrelModel.noTooth(I)Z -/
theorem b259 : mB 259 = cX9_noTooth := rfl
theorem r259 : mR 259 = (some .boolean) := rfl
theorem p259 (a b : Nat) : phi 259 a ≤ phi 259 b := Nat.le_refl 0
theorem d259_0 : decode cX9_noTooth 0 = .ok (.aload_n 0, 1) := by decide +kernel
theorem d259_1 : decode cX9_noTooth 1 = .ok (.aload_n 0, 1) := by decide +kernel
theorem d259_2 : decode cX9_noTooth 2 = .ok (.iload_n 1, 1) := by decide +kernel
theorem d259_3 : decode cX9_noTooth 3 = .ok (.invokevirtual 343, 3) := by decide +kernel
theorem d259_6 : decode cX9_noTooth 6 = .ok (.ifCond .ne 7, 3) := by decide +kernel
theorem d259_9 : decode cX9_noTooth 9 = .ok (.iconst 1, 1) := by decide +kernel
theorem d259_10 : decode cX9_noTooth 10 = .ok (.goto 4, 3) := by decide +kernel
theorem d259_13 : decode cX9_noTooth 13 = .ok (.iconst 0, 1) := by decide +kernel
theorem d259_14 : decode cX9_noTooth 14 = .ok (.invokevirtual 328, 3) := by decide +kernel
theorem d259_17 : decode cX9_noTooth 17 = .ok (.ireturn, 1) := by decide +kernel
theorem v259_0 {w : PW} {Q : PO → PW → Prop} {x1 : Int} (hs : Sh w) (hx1 : bd x1) (h : (bd ((gI w 170 4) - 1)) ∧ ((0 ≤ x1 ∧ x1 < gI w 170 4) → ∀ w2 : PW, w2 = sI w 169 0 0 → Q (.inl (some (iv 0))) w2) ∧ ((¬ (0 ≤ x1 ∧ x1 < gI w 170 4)) → ∀ w3 : PW, w3 = sI w 169 0 1 → Q (.inl (some (iv 1))) w3)) : pX 259 0 [some (.ref 169), some (iv x1)] [] w Q :=
  w_f b259 d259_0 rfl rfl rfl <| w_f b259 d259_1 rfl rfl rfl <| w_f b259 d259_2 rfl rfl rfl <| w_cc b259 d259_3 rfl (pcl_v (n := 1) rfl rfl rfl (by decide +kernel) (sh_isOb hs (tlt 169 rfl) tbC_169) rfl rfl) rfl <| c258 hs hx1 h.1 <| w_ifneZ b259 d259_6 rfl rfl (p259 _ _) (fun c1 => w_f b259 d259_13 rfl rfl rfl <| w_cc b259 d259_14 rfl (pcl_v (n := 1) rfl rfl rfl (by decide +kernel) (sh_isOb hs (tlt 169 rfl) tbC_169) rfl rfl) rfl <| c245 hs ⟨by decide, by decide⟩ (by decide) <| w_rz b259 d259_17 r259 (by decide) ((h.2.1 c1) _ rfl)) (fun c1 => w_f b259 d259_9 rfl rfl rfl <| w_j b259 d259_10 rfl (p259 _ _) <| w_cc b259 d259_14 rfl (pcl_v (n := 1) rfl rfl rfl (by decide +kernel) (sh_isOb hs (tlt 169 rfl) tbC_169) rfl rfl) rfl <| c245 hs ⟨by decide, by decide⟩ (by decide) <| w_rz b259 d259_17 r259 (by decide) ((h.2.2 c1) _ rfl))
theorem e259 {w : PW} {Q : PO → PW → Prop} {x1 : Int} (hs : Sh w) (hx1 : bd x1) (h : (bd ((gI w 170 4) - 1)) ∧ ((0 ≤ x1 ∧ x1 < gI w 170 4) → ∀ w2 : PW, w2 = sI w 169 0 0 → Q (.inl (some (iv 0))) w2) ∧ ((¬ (0 ≤ x1 ∧ x1 < gI w 170 4)) → ∀ w3 : PW, w3 = sI w 169 0 1 → Q (.inl (some (iv 1))) w3)) : pC 259 [.ref 169, iv x1] w Q :=
  (pC_in (Nat.le_of_ble_eq_true rfl) rfl Q).mpr (v259_0 hs hx1 h)
theorem c259 {w : PW} {Q : PO → PW → Prop} {x1 : Int} (hs : Sh w) (hx1 : bd x1) (hp : bd ((gI w 170 4) - 1)) (h1 : 0 ≤ x1 ∧ x1 < gI w 170 4 → Q (.inl (some (iv 0))) (sI w 169 0 0)) (h2 : ¬ (0 ≤ x1 ∧ x1 < gI w 170 4) → Q (.inl (some (iv 1))) (sI w 169 0 1)) : pC 259 [.ref 169, iv x1] w Q :=
  e259 hs hx1 ⟨hp, fun q _ e => by subst e; exact h1 q, fun q _ e => by subst e; exact h2 q⟩
/-! 260: PinBarrelModel.throwsIf(ZI)Z -/
theorem b260 : mB 260 = cX9_throwsIf := rfl
theorem r260 : mR 260 = (some .boolean) := rfl
theorem p260 (a b : Nat) : phi 260 a ≤ phi 260 b := Nat.le_refl 0
theorem d260_0 : decode cX9_throwsIf 0 = .ok (.iload_n 1, 1) := by decide +kernel
theorem d260_1 : decode cX9_throwsIf 1 = .ok (.ifCond .eq 8, 3) := by decide +kernel
theorem d260_4 : decode cX9_throwsIf 4 = .ok (.aload_n 0, 1) := by decide +kernel
theorem d260_5 : decode cX9_throwsIf 5 = .ok (.iload_n 2, 1) := by decide +kernel
theorem d260_6 : decode cX9_throwsIf 6 = .ok (.putfield 50, 3) := by decide +kernel
theorem d260_9 : decode cX9_throwsIf 9 = .ok (.iload_n 1, 1) := by decide +kernel
theorem d260_10 : decode cX9_throwsIf 10 = .ok (.ireturn, 1) := by decide +kernel
theorem v260_0 {w : PW} {Q : PO → PW → Prop} {x1 : Int} {x2 : Int} (hs : Sh w) (hx1 : bd x1) (hx2 : bd x2) (h : (x1 = 0 → (x1 = 0 ∨ x1 = 1) ∧ Q (.inl (some (iv x1))) w) ∧ (x1 ≠ 0 → ∀ w2 : PW, w2 = sI w 169 0 x2 → (x1 = 0 ∨ x1 = 1) ∧ Q (.inl (some (iv x1))) w2)) : pX 260 0 [some (.ref 169), some (iv x1), some (iv x2)] [] w Q :=
  w_f b260 d260_0 rfl rfl rfl <| w_ifeq b260 d260_1 rfl rfl (p260 _ _) hx1 (fun c1 => w_f b260 d260_9 rfl rfl rfl <| w_rz b260 d260_10 r260 (h.1 c1).1 (h.1 c1).2) (fun c1 => w_f b260 d260_4 rfl rfl rfl <| w_f b260 d260_5 rfl rfl rfl <| w_pi b260 d260_6 rfl rfl hs (tlt 169 rfl) tbC_169 rfl rfl rfl <| w_f b260 d260_9 rfl rfl rfl <| w_rz b260 d260_10 r260 ((h.2 c1) _ rfl).1 ((h.2 c1) _ rfl).2)
theorem e260 {w : PW} {Q : PO → PW → Prop} {x1 : Int} {x2 : Int} (hs : Sh w) (hx1 : bd x1) (hx2 : bd x2) (h : (x1 = 0 → (x1 = 0 ∨ x1 = 1) ∧ Q (.inl (some (iv x1))) w) ∧ (x1 ≠ 0 → ∀ w2 : PW, w2 = sI w 169 0 x2 → (x1 = 0 ∨ x1 = 1) ∧ Q (.inl (some (iv x1))) w2)) : pC 260 [.ref 169, iv x1, iv x2] w Q :=
  (pC_in (Nat.le_of_ble_eq_true rfl) rfl Q).mpr (v260_0 hs hx1 hx2 h)
theorem c260a {w : PW} {Q : PO → PW → Prop} {x2 : Int} (hs : Sh w) (hx1 : bd 0) (hx2 : bd x2) (h : Q (.inl (some (iv 0))) w) : pC 260 [.ref 169, iv 0, iv x2] w Q := e260 hs hx1 hx2 ⟨fun _ => ⟨Or.inl rfl, h⟩, fun q => absurd rfl q⟩
theorem c260b {w : PW} {Q : PO → PW → Prop} {x2 : Int} (hs : Sh w) (hx1 : bd 1) (hx2 : bd x2) (h : Q (.inl (some (iv 1))) (sI w 169 0 x2)) : pC 260 [.ref 169, iv 1, iv x2] w Q := e260 hs hx1 hx2 ⟨fun q => absurd q (by decide), fun _ _ e => ⟨Or.inr rfl, by subst e; exact h⟩⟩
/-! 261: PinBarrelModel.of(II)I -/
theorem b261 : mB 261 = cX9_of := rfl
theorem r261 : mR 261 = (some .int) := rfl
theorem p261 (a b : Nat) : phi 261 a ≤ phi 261 b := Nat.le_refl 0
theorem d261_0 : decode cX9_of 0 = .ok (.aload_n 0, 1) := by decide +kernel
theorem d261_1 : decode cX9_of 1 = .ok (.getfield 9, 3) := by decide +kernel
theorem d261_4 : decode cX9_of 4 = .ok (.iload_n 1, 1) := by decide +kernel
theorem d261_5 : decode cX9_of 5 = .ok (.iload_n 2, 1) := by decide +kernel
theorem d261_6 : decode cX9_of 6 = .ok (.invokestatic 206, 3) := by decide +kernel
theorem d261_9 : decode cX9_of 9 = .ok (.iaload, 1) := by decide +kernel
theorem d261_10 : decode cX9_of 10 = .ok (.ireturn, 1) := by decide +kernel
theorem v261_0 {w : PW} {Q : PO → PW → Prop} {x1 : Int} {x2 : Int} (hs : Sh w) (hx1 : bd x1) (hx2 : bd x2) (h : (0 ≤ ((11 + 5 * x1) + x2) ∧ ((11 + 5 * x1) + x2) < 843) ∧ Q (.inl (some (iv (gI w 170 ((11 + 5 * x1) + x2).toNat)))) w) : pX 261 0 [some (.ref 169), some (iv x1), some (iv x2)] [] w Q :=
  w_f b261 d261_0 rfl rfl rfl <| w_gr b261 d261_1 rfl rfl hs (tlt 169 rfl) tbC_169 rfl (by decide) <| w_f b261 d261_4 rfl rfl rfl <| w_f b261 d261_5 rfl rfl rfl <| w_cc b261 d261_6 rfl (pcl_s1 (n := 2) rfl rfl rfl (by decide +kernel) rfl rfl) rfl <| c230 hs hx1 hx2 <| w_ial b261 d261_9 rfl hs (tlt 170 rfl) tbC_170 (bdix (n := 843) h.1 rfl) h.1 <| w_ri b261 d261_10 r261 h.2
theorem e261 {w : PW} {Q : PO → PW → Prop} {x1 : Int} {x2 : Int} (hs : Sh w) (hx1 : bd x1) (hx2 : bd x2) (h : (0 ≤ ((11 + 5 * x1) + x2) ∧ ((11 + 5 * x1) + x2) < 843) ∧ Q (.inl (some (iv (gI w 170 ((11 + 5 * x1) + x2).toNat)))) w) : pC 261 [.ref 169, iv x1, iv x2] w Q :=
  (pC_in (Nat.le_of_ble_eq_true rfl) rfl Q).mpr (v261_0 hs hx1 hx2 h)
theorem c261 {w : PW} {Q : PO → PW → Prop} {x1 x2 : Int} (hs : Sh w) (hx1 : bd x1) (hx2 : bd x2) (h1 : 0 ≤ (11 + 5 * x1) + x2 ∧ (11 + 5 * x1) + x2 < 843) (h : Q (.inl (some (iv (gI w 170 ((11 + 5 * x1) + x2).toNat)))) w) : pC 261 [.ref 169, iv x1, iv x2] w Q := e261 hs hx1 hx2 ⟨h1, h⟩
/-! 262: PinBarrelModel.need(I)I -/
theorem b262 : mB 262 = cX9_need := rfl
theorem r262 : mR 262 = (some .int) := rfl
theorem p262 (a b : Nat) : phi 262 a ≤ phi 262 b := Nat.le_refl 0
theorem d262_0 : decode cX9_need 0 = .ok (.aload_n 0, 1) := by decide +kernel
theorem d262_1 : decode cX9_need 1 = .ok (.iload_n 1, 1) := by decide +kernel
theorem d262_2 : decode cX9_need 2 = .ok (.iconst 1, 1) := by decide +kernel
theorem d262_3 : decode cX9_need 3 = .ok (.invokevirtual 219, 3) := by decide +kernel
theorem d262_6 : decode cX9_need 6 = .ok (.aload_n 0, 1) := by decide +kernel
theorem d262_7 : decode cX9_need 7 = .ok (.getfield 9, 3) := by decide +kernel
theorem d262_10 : decode cX9_need 10 = .ok (.iconst 3, 1) := by decide +kernel
theorem d262_11 : decode cX9_need 11 = .ok (.iaload, 1) := by decide +kernel
theorem d262_12 : decode cX9_need 12 = .ok (.imul, 1) := by decide +kernel
theorem d262_13 : decode cX9_need 13 = .ok (.ireturn, 1) := by decide +kernel
theorem v262_0 {w : PW} {Q : PO → PW → Prop} {x1 : Int} (hs : Sh w) (hx1 : bd x1) (h : (0 ≤ (11 + 5 * x1) + 1 ∧ (11 + 5 * x1) + 1 < 843) ∧ Q (.inl (some (iv ((gI w 170 ((11 + 5 * x1) + 1).toNat) * (gI w 170 3))))) w) : pX 262 0 [some (.ref 169), some (iv x1)] [] w Q :=
  w_f b262 d262_0 rfl rfl rfl <| w_f b262 d262_1 rfl rfl rfl <| w_f b262 d262_2 rfl rfl rfl <| w_cc b262 d262_3 rfl (pcl_v (n := 2) rfl rfl rfl (by decide +kernel) (sh_isOb hs (tlt 169 rfl) tbC_169) rfl rfl) rfl <| c261 hs hx1 ⟨by decide, by decide⟩ h.1 <| w_f b262 d262_6 rfl rfl rfl <| w_gr b262 d262_7 rfl rfl hs (tlt 169 rfl) tbC_169 rfl (by decide) <| w_f b262 d262_10 rfl rfl rfl <| w_ial b262 d262_11 rfl hs (tlt 170 rfl) tbC_170 (bdix (n := 843) ⟨by decide, by decide⟩ rfl) ⟨by decide, by decide⟩ <| w_f b262 d262_12 rfl (pf_imul (gI w 170 ((11 + 5 * x1) + 1).toNat) (gI w 170 3)) rfl <| w_ri b262 d262_13 r262 h.2
theorem e262 {w : PW} {Q : PO → PW → Prop} {x1 : Int} (hs : Sh w) (hx1 : bd x1) (h : (0 ≤ (11 + 5 * x1) + 1 ∧ (11 + 5 * x1) + 1 < 843) ∧ Q (.inl (some (iv ((gI w 170 ((11 + 5 * x1) + 1).toNat) * (gI w 170 3))))) w) : pC 262 [.ref 169, iv x1] w Q :=
  (pC_in (Nat.le_of_ble_eq_true rfl) rfl Q).mpr (v262_0 hs hx1 h)
theorem c262 {w : PW} {Q : PO → PW → Prop} {x1 : Int} (hs : Sh w) (hx1 : bd x1) (h1 : 0 ≤ (11 + 5 * x1) + 1 ∧ (11 + 5 * x1) + 1 < 843) (h : Q (.inl (some (iv ((gI w 170 ((11 + 5 * x1) + 1).toNat) * (gI w 170 3))))) w) : pC 262 [.ref 169, iv x1] w Q := e262 hs hx1 ⟨h1, h⟩
/-! 266: PinBarrelModel.noNote(I)Z -/
theorem b266 : mB 266 = cX9_noNote := rfl
theorem r266 : mR 266 = (some .boolean) := rfl
theorem p266 (a b : Nat) : phi 266 a ≤ phi 266 b := Nat.le_refl 0
theorem d266_0 : decode cX9_noNote 0 = .ok (.aload_n 0, 1) := by decide +kernel
theorem d266_1 : decode cX9_noNote 1 = .ok (.iload_n 1, 1) := by decide +kernel
theorem d266_2 : decode cX9_noNote 2 = .ok (.i2l, 1) := by decide +kernel
theorem d266_3 : decode cX9_noNote 3 = .ok (.lconst 0, 1) := by decide +kernel
theorem d266_4 : decode cX9_noNote 4 = .ok (.aload_n 0, 1) := by decide +kernel
theorem d266_5 : decode cX9_noNote 5 = .ok (.getfield 9, 3) := by decide +kernel
theorem d266_8 : decode cX9_noNote 8 = .ok (.iconst 5, 1) := by decide +kernel
theorem d266_9 : decode cX9_noNote 9 = .ok (.iaload, 1) := by decide +kernel
theorem d266_10 : decode cX9_noNote 10 = .ok (.iconst 1, 1) := by decide +kernel
theorem d266_11 : decode cX9_noNote 11 = .ok (.isub, 1) := by decide +kernel
theorem d266_12 : decode cX9_noNote 12 = .ok (.i2l, 1) := by decide +kernel
theorem d266_13 : decode cX9_noNote 13 = .ok (.invokestatic 81, 3) := by decide +kernel
theorem d266_16 : decode cX9_noNote 16 = .ok (.ifCond .ne 7, 3) := by decide +kernel
theorem d266_19 : decode cX9_noNote 19 = .ok (.iconst 1, 1) := by decide +kernel
theorem d266_20 : decode cX9_noNote 20 = .ok (.goto 4, 3) := by decide +kernel
theorem d266_23 : decode cX9_noNote 23 = .ok (.iconst 0, 1) := by decide +kernel
theorem d266_24 : decode cX9_noNote 24 = .ok (.invokevirtual 328, 3) := by decide +kernel
theorem d266_27 : decode cX9_noNote 27 = .ok (.ireturn, 1) := by decide +kernel
theorem v266_0 {w : PW} {Q : PO → PW → Prop} {x1 : Int} (hs : Sh w) (hx1 : bd x1) (h : ((((0 : Int64)).toInt ≤ (i2L x1).toInt ∧ (i2L x1).toInt ≤ (i2L ((gI w 170 5) - 1)).toInt) → ∀ w2 : PW, w2 = sI w 169 0 0 → Q (.inl (some (iv 0))) w2) ∧ ((¬ (((0 : Int64)).toInt ≤ (i2L x1).toInt ∧ (i2L x1).toInt ≤ (i2L ((gI w 170 5) - 1)).toInt)) → ∀ w3 : PW, w3 = sI w 169 0 1 → Q (.inl (some (iv 1))) w3)) : pX 266 0 [some (.ref 169), some (iv x1)] [] w Q :=
  w_f b266 d266_0 rfl rfl rfl <| w_f b266 d266_1 rfl rfl rfl <| w_f b266 d266_2 rfl rfl rfl <| w_f b266 d266_3 rfl rfl rfl <| w_f b266 d266_4 rfl rfl rfl <| w_gr b266 d266_5 rfl rfl hs (tlt 169 rfl) tbC_169 rfl (by decide) <| w_f b266 d266_8 rfl rfl rfl <| w_ial b266 d266_9 rfl hs (tlt 170 rfl) tbC_170 (bdix (n := 843) ⟨by decide, by decide⟩ rfl) ⟨by decide, by decide⟩ <| w_f b266 d266_10 rfl rfl rfl <| w_f b266 d266_11 rfl (pf_isub (gI w 170 5) 1) rfl <| w_f b266 d266_12 rfl rfl rfl <| w_cc b266 d266_13 rfl (pcl_s1 (n := 3) rfl rfl rfl (by decide +kernel) rfl rfl) rfl <| c221 hs <| w_ifneZ b266 d266_16 rfl rfl (p266 _ _) (fun c1 => w_f b266 d266_23 rfl rfl rfl <| w_cc b266 d266_24 rfl (pcl_v (n := 1) rfl rfl rfl (by decide +kernel) (sh_isOb hs (tlt 169 rfl) tbC_169) rfl rfl) rfl <| c245 hs ⟨by decide, by decide⟩ (by decide) <| w_rz b266 d266_27 r266 (by decide) ((h.1 c1) _ rfl)) (fun c1 => w_f b266 d266_19 rfl rfl rfl <| w_j b266 d266_20 rfl (p266 _ _) <| w_cc b266 d266_24 rfl (pcl_v (n := 1) rfl rfl rfl (by decide +kernel) (sh_isOb hs (tlt 169 rfl) tbC_169) rfl rfl) rfl <| c245 hs ⟨by decide, by decide⟩ (by decide) <| w_rz b266 d266_27 r266 (by decide) ((h.2 c1) _ rfl))
theorem e266 {w : PW} {Q : PO → PW → Prop} {x1 : Int} (hs : Sh w) (hx1 : bd x1) (h : ((((0 : Int64)).toInt ≤ (i2L x1).toInt ∧ (i2L x1).toInt ≤ (i2L ((gI w 170 5) - 1)).toInt) → ∀ w2 : PW, w2 = sI w 169 0 0 → Q (.inl (some (iv 0))) w2) ∧ ((¬ (((0 : Int64)).toInt ≤ (i2L x1).toInt ∧ (i2L x1).toInt ≤ (i2L ((gI w 170 5) - 1)).toInt)) → ∀ w3 : PW, w3 = sI w 169 0 1 → Q (.inl (some (iv 1))) w3)) : pC 266 [.ref 169, iv x1] w Q :=
  (pC_in (Nat.le_of_ble_eq_true rfl) rfl Q).mpr (v266_0 hs hx1 h)
theorem c266 {w : PW} {Q : PO → PW → Prop} {x1 : Int} (hs : Sh w) (hx1 : bd x1) (hp : bd ((gI w 170 5) - 1)) (h1 : 0 ≤ x1 ∧ x1 < gI w 170 5 → Q (.inl (some (iv 0))) (sI w 169 0 0)) (h2 : ¬ (0 ≤ x1 ∧ x1 < gI w 170 5) → Q (.inl (some (iv 1))) (sI w 169 0 1)) : pC 266 [.ref 169, iv x1] w Q := by
  refine e266 hs hx1 ?_
  rw [i2L_toInt hx1, i2L_toInt hp, show (0 : Int64).toInt = 0 from by decide]
  exact ⟨fun q _ e => by subst e; exact h1 (by omega), fun q _ e => by subst e; exact h2 (by omega)⟩
/-! 267: PinBarrelModel.ofNote(II)I -/
theorem b267 : mB 267 = cX9_ofNote := rfl
theorem r267 : mR 267 = (some .int) := rfl
theorem p267 (a b : Nat) : phi 267 a ≤ phi 267 b := Nat.le_refl 0
theorem d267_0 : decode cX9_ofNote 0 = .ok (.aload_n 0, 1) := by decide +kernel
theorem d267_1 : decode cX9_ofNote 1 = .ok (.getfield 9, 3) := by decide +kernel
theorem d267_4 : decode cX9_ofNote 4 = .ok (.iload_n 1, 1) := by decide +kernel
theorem d267_5 : decode cX9_ofNote 5 = .ok (.iload_n 2, 1) := by decide +kernel
theorem d267_6 : decode cX9_ofNote 6 = .ok (.invokestatic 210, 3) := by decide +kernel
theorem d267_9 : decode cX9_ofNote 9 = .ok (.iaload, 1) := by decide +kernel
theorem d267_10 : decode cX9_ofNote 10 = .ok (.ireturn, 1) := by decide +kernel
theorem v267_0 {w : PW} {Q : PO → PW → Prop} {x1 : Int} {x2 : Int} (hs : Sh w) (hx1 : bd x1) (hx2 : bd x2) (h : (0 ≤ ((71 + 3 * x1) + x2) ∧ ((71 + 3 * x1) + x2) < 843) ∧ Q (.inl (some (iv (gI w 170 ((71 + 3 * x1) + x2).toNat)))) w) : pX 267 0 [some (.ref 169), some (iv x1), some (iv x2)] [] w Q :=
  w_f b267 d267_0 rfl rfl rfl <| w_gr b267 d267_1 rfl rfl hs (tlt 169 rfl) tbC_169 rfl (by decide) <| w_f b267 d267_4 rfl rfl rfl <| w_f b267 d267_5 rfl rfl rfl <| w_cc b267 d267_6 rfl (pcl_s1 (n := 2) rfl rfl rfl (by decide +kernel) rfl rfl) rfl <| c233 hs hx1 hx2 <| w_ial b267 d267_9 rfl hs (tlt 170 rfl) tbC_170 (bdix (n := 843) h.1 rfl) h.1 <| w_ri b267 d267_10 r267 h.2
theorem e267 {w : PW} {Q : PO → PW → Prop} {x1 : Int} {x2 : Int} (hs : Sh w) (hx1 : bd x1) (hx2 : bd x2) (h : (0 ≤ ((71 + 3 * x1) + x2) ∧ ((71 + 3 * x1) + x2) < 843) ∧ Q (.inl (some (iv (gI w 170 ((71 + 3 * x1) + x2).toNat)))) w) : pC 267 [.ref 169, iv x1, iv x2] w Q :=
  (pC_in (Nat.le_of_ble_eq_true rfl) rfl Q).mpr (v267_0 hs hx1 hx2 h)
theorem c267 {w : PW} {Q : PO → PW → Prop} {x1 x2 : Int} (hs : Sh w) (hx1 : bd x1) (hx2 : bd x2) (h1 : 0 ≤ (71 + 3 * x1) + x2 ∧ (71 + 3 * x1) + x2 < 843) (h : Q (.inl (some (iv (gI w 170 ((71 + 3 * x1) + x2).toNat)))) w) : pC 267 [.ref 169, iv x1, iv x2] w Q := e267 hs hx1 hx2 ⟨h1, h⟩
/-! 271: PinBarrelModel.isTune(I)Z -/
theorem b271 : mB 271 = cX9_isTune := rfl
theorem r271 : mR 271 = (some .boolean) := rfl
theorem p271 (a b : Nat) : phi 271 a ≤ phi 271 b := Nat.le_refl 0
theorem d271_0 : decode cX9_isTune 0 = .ok (.iload_n 1, 1) := by decide +kernel
theorem d271_1 : decode cX9_isTune 1 = .ok (.i2l, 1) := by decide +kernel
theorem d271_2 : decode cX9_isTune 2 = .ok (.lconst 0, 1) := by decide +kernel
theorem d271_3 : decode cX9_isTune 3 = .ok (.aload_n 0, 1) := by decide +kernel
theorem d271_4 : decode cX9_isTune 4 = .ok (.getfield 9, 3) := by decide +kernel
theorem d271_7 : decode cX9_isTune 7 = .ok (.iconst 1, 1) := by decide +kernel
theorem d271_8 : decode cX9_isTune 8 = .ok (.iaload, 1) := by decide +kernel
theorem d271_9 : decode cX9_isTune 9 = .ok (.iconst 1, 1) := by decide +kernel
theorem d271_10 : decode cX9_isTune 10 = .ok (.isub, 1) := by decide +kernel
theorem d271_11 : decode cX9_isTune 11 = .ok (.i2l, 1) := by decide +kernel
theorem d271_12 : decode cX9_isTune 12 = .ok (.invokestatic 81, 3) := by decide +kernel
theorem d271_15 : decode cX9_isTune 15 = .ok (.ireturn, 1) := by decide +kernel
theorem v271_0 {w : PW} {Q : PO → PW → Prop} {x1 : Int} (hs : Sh w) (hx1 : bd x1) (h : Q (.inl (some (iv (if ((0 : Int64)).toInt ≤ (i2L x1).toInt ∧ (i2L x1).toInt ≤ (i2L ((gI w 170 1) - 1)).toInt then 1 else 0)))) w) : pX 271 0 [some (.ref 169), some (iv x1)] [] w Q :=
  w_f b271 d271_0 rfl rfl rfl <| w_f b271 d271_1 rfl rfl rfl <| w_f b271 d271_2 rfl rfl rfl <| w_f b271 d271_3 rfl rfl rfl <| w_gr b271 d271_4 rfl rfl hs (tlt 169 rfl) tbC_169 rfl (by decide) <| w_f b271 d271_7 rfl rfl rfl <| w_ial b271 d271_8 rfl hs (tlt 170 rfl) tbC_170 (bdix (n := 843) ⟨by decide, by decide⟩ rfl) ⟨by decide, by decide⟩ <| w_f b271 d271_9 rfl rfl rfl <| w_f b271 d271_10 rfl (pf_isub (gI w 170 1) 1) rfl <| w_f b271 d271_11 rfl rfl rfl <| w_cc b271 d271_12 rfl (pcl_s1 (n := 3) rfl rfl rfl (by decide +kernel) rfl rfl) rfl <| c221 hs <| w_rz b271 d271_15 r271 (zor _) h
theorem e271 {w : PW} {Q : PO → PW → Prop} {x1 : Int} (hs : Sh w) (hx1 : bd x1) (h : Q (.inl (some (iv (if ((0 : Int64)).toInt ≤ (i2L x1).toInt ∧ (i2L x1).toInt ≤ (i2L ((gI w 170 1) - 1)).toInt then 1 else 0)))) w) : pC 271 [.ref 169, iv x1] w Q :=
  (pC_in (Nat.le_of_ble_eq_true rfl) rfl Q).mpr (v271_0 hs hx1 h)
theorem c271 {w : PW} {Q : PO → PW → Prop} {x1 : Int} (hs : Sh w) (hx1 : bd x1) (hp : bd ((gI w 170 1) - 1)) (h : Q (.inl (some (iv (if 0 ≤ x1 ∧ x1 < gI w 170 1 then 1 else 0)))) w) : pC 271 [.ref 169, iv x1] w Q := by
  refine e271 hs hx1 ?_
  rw [i2L_toInt hx1, i2L_toInt hp, show (0 : Int64).toInt = 0 from by decide]
  by_cases q : 0 ≤ x1 ∧ x1 < gI w 170 1
  · rw [if_pos q] at h; rw [if_pos (by omega)]; exact h
  · rw [if_neg q] at h; rw [if_neg (by omega)]; exact h
/-! 272: PinBarrelModel.isStep(I)Z -/
theorem b272 : mB 272 = cX9_isStep := rfl
theorem r272 : mR 272 = (some .boolean) := rfl
theorem p272 (a b : Nat) : phi 272 a ≤ phi 272 b := Nat.le_refl 0
theorem d272_0 : decode cX9_isStep 0 = .ok (.iload_n 1, 1) := by decide +kernel
theorem d272_1 : decode cX9_isStep 1 = .ok (.i2l, 1) := by decide +kernel
theorem d272_2 : decode cX9_isStep 2 = .ok (.lconst 0, 1) := by decide +kernel
theorem d272_3 : decode cX9_isStep 3 = .ok (.aload_n 0, 1) := by decide +kernel
theorem d272_4 : decode cX9_isStep 4 = .ok (.getfield 9, 3) := by decide +kernel
theorem d272_7 : decode cX9_isStep 7 = .ok (.iconst 0, 1) := by decide +kernel
theorem d272_8 : decode cX9_isStep 8 = .ok (.iaload, 1) := by decide +kernel
theorem d272_9 : decode cX9_isStep 9 = .ok (.iconst 1, 1) := by decide +kernel
theorem d272_10 : decode cX9_isStep 10 = .ok (.isub, 1) := by decide +kernel
theorem d272_11 : decode cX9_isStep 11 = .ok (.i2l, 1) := by decide +kernel
theorem d272_12 : decode cX9_isStep 12 = .ok (.invokestatic 81, 3) := by decide +kernel
theorem d272_15 : decode cX9_isStep 15 = .ok (.ireturn, 1) := by decide +kernel
theorem v272_0 {w : PW} {Q : PO → PW → Prop} {x1 : Int} (hs : Sh w) (hx1 : bd x1) (h : Q (.inl (some (iv (if ((0 : Int64)).toInt ≤ (i2L x1).toInt ∧ (i2L x1).toInt ≤ (i2L ((gI w 170 0) - 1)).toInt then 1 else 0)))) w) : pX 272 0 [some (.ref 169), some (iv x1)] [] w Q :=
  w_f b272 d272_0 rfl rfl rfl <| w_f b272 d272_1 rfl rfl rfl <| w_f b272 d272_2 rfl rfl rfl <| w_f b272 d272_3 rfl rfl rfl <| w_gr b272 d272_4 rfl rfl hs (tlt 169 rfl) tbC_169 rfl (by decide) <| w_f b272 d272_7 rfl rfl rfl <| w_ial b272 d272_8 rfl hs (tlt 170 rfl) tbC_170 (bdix (n := 843) ⟨by decide, by decide⟩ rfl) ⟨by decide, by decide⟩ <| w_f b272 d272_9 rfl rfl rfl <| w_f b272 d272_10 rfl (pf_isub (gI w 170 0) 1) rfl <| w_f b272 d272_11 rfl rfl rfl <| w_cc b272 d272_12 rfl (pcl_s1 (n := 3) rfl rfl rfl (by decide +kernel) rfl rfl) rfl <| c221 hs <| w_rz b272 d272_15 r272 (zor _) h
theorem e272 {w : PW} {Q : PO → PW → Prop} {x1 : Int} (hs : Sh w) (hx1 : bd x1) (h : Q (.inl (some (iv (if ((0 : Int64)).toInt ≤ (i2L x1).toInt ∧ (i2L x1).toInt ≤ (i2L ((gI w 170 0) - 1)).toInt then 1 else 0)))) w) : pC 272 [.ref 169, iv x1] w Q :=
  (pC_in (Nat.le_of_ble_eq_true rfl) rfl Q).mpr (v272_0 hs hx1 h)
theorem c272 {w : PW} {Q : PO → PW → Prop} {x1 : Int} (hs : Sh w) (hx1 : bd x1) (hp : bd ((gI w 170 0) - 1)) (h : Q (.inl (some (iv (if 0 ≤ x1 ∧ x1 < gI w 170 0 then 1 else 0)))) w) : pC 272 [.ref 169, iv x1] w Q := by
  refine e272 hs hx1 ?_
  rw [i2L_toInt hx1, i2L_toInt hp, show (0 : Int64).toInt = 0 from by decide]
  by_cases q : 0 ≤ x1 ∧ x1 < gI w 170 0
  · rw [if_pos q] at h; rw [if_pos (by omega)]; exact h
  · rw [if_neg q] at h; rw [if_neg (by omega)]; exact h
/-! 273: PinBarrelModel.noPlace(II)Z -/
theorem b273 : mB 273 = cX9_noPlace := rfl
theorem r273 : mR 273 = (some .boolean) := rfl
theorem p273 (a b : Nat) : phi 273 a ≤ phi 273 b := Nat.le_refl 0
theorem d273_0 : decode cX9_noPlace 0 = .ok (.aload_n 0, 1) := by decide +kernel
theorem d273_1 : decode cX9_noPlace 1 = .ok (.aload_n 0, 1) := by decide +kernel
theorem d273_2 : decode cX9_noPlace 2 = .ok (.iload_n 1, 1) := by decide +kernel
theorem d273_3 : decode cX9_noPlace 3 = .ok (.invokevirtual 340, 3) := by decide +kernel
theorem d273_6 : decode cX9_noPlace 6 = .ok (.ifCond .eq 11, 3) := by decide +kernel
theorem d273_9 : decode cX9_noPlace 9 = .ok (.aload_n 0, 1) := by decide +kernel
theorem d273_10 : decode cX9_noPlace 10 = .ok (.iload_n 2, 1) := by decide +kernel
theorem d273_11 : decode cX9_noPlace 11 = .ok (.invokevirtual 371, 3) := by decide +kernel
theorem d273_14 : decode cX9_noPlace 14 = .ok (.ifCond .ne 7, 3) := by decide +kernel
theorem d273_17 : decode cX9_noPlace 17 = .ok (.iconst 1, 1) := by decide +kernel
theorem d273_18 : decode cX9_noPlace 18 = .ok (.goto 4, 3) := by decide +kernel
theorem d273_21 : decode cX9_noPlace 21 = .ok (.iconst 0, 1) := by decide +kernel
theorem d273_22 : decode cX9_noPlace 22 = .ok (.invokevirtual 328, 3) := by decide +kernel
theorem d273_25 : decode cX9_noPlace 25 = .ok (.ireturn, 1) := by decide +kernel
theorem v273_0 {w : PW} {Q : PO → PW → Prop} {x1 : Int} {x2 : Int} (hs : Sh w) (hx1 : bd x1) (hx2 : bd x2) (h : (bd ((gI w 170 1) - 1)) ∧ ((¬ (0 ≤ x1 ∧ x1 < gI w 170 1)) → ∀ w2 : PW, w2 = sI w 169 0 1 → Q (.inl (some (iv 1))) w2) ∧ ((0 ≤ x1 ∧ x1 < gI w 170 1) → (bd ((gI w 170 0) - 1)) ∧ ((0 ≤ x2 ∧ x2 < gI w 170 0) → ∀ w4 : PW, w4 = sI w 169 0 0 → Q (.inl (some (iv 0))) w4) ∧ ((¬ (0 ≤ x2 ∧ x2 < gI w 170 0)) → ∀ w5 : PW, w5 = sI w 169 0 1 → Q (.inl (some (iv 1))) w5))) : pX 273 0 [some (.ref 169), some (iv x1), some (iv x2)] [] w Q :=
  w_f b273 d273_0 rfl rfl rfl <| w_f b273 d273_1 rfl rfl rfl <| w_f b273 d273_2 rfl rfl rfl <| w_cc b273 d273_3 rfl (pcl_v (n := 1) rfl rfl rfl (by decide +kernel) (sh_isOb hs (tlt 169 rfl) tbC_169) rfl rfl) rfl <| c271 hs hx1 h.1 <| w_ifeqZ b273 d273_6 rfl rfl (p273 _ _) (fun c1 => w_f b273 d273_17 rfl rfl rfl <| w_j b273 d273_18 rfl (p273 _ _) <| w_cc b273 d273_22 rfl (pcl_v (n := 1) rfl rfl rfl (by decide +kernel) (sh_isOb hs (tlt 169 rfl) tbC_169) rfl rfl) rfl <| c245 hs ⟨by decide, by decide⟩ (by decide) <| w_rz b273 d273_25 r273 (by decide) ((h.2.1 c1) _ rfl)) (fun c1 => w_f b273 d273_9 rfl rfl rfl <| w_f b273 d273_10 rfl rfl rfl <| w_cc b273 d273_11 rfl (pcl_v (n := 1) rfl rfl rfl (by decide +kernel) (sh_isOb hs (tlt 169 rfl) tbC_169) rfl rfl) rfl <| c272 hs hx2 (h.2.2 c1).1 <| w_ifneZ b273 d273_14 rfl rfl (p273 _ _) (fun c3 => w_f b273 d273_21 rfl rfl rfl <| w_cc b273 d273_22 rfl (pcl_v (n := 1) rfl rfl rfl (by decide +kernel) (sh_isOb hs (tlt 169 rfl) tbC_169) rfl rfl) rfl <| c245 hs ⟨by decide, by decide⟩ (by decide) <| w_rz b273 d273_25 r273 (by decide) (((h.2.2 c1).2.1 c3) _ rfl)) (fun c3 => w_f b273 d273_17 rfl rfl rfl <| w_j b273 d273_18 rfl (p273 _ _) <| w_cc b273 d273_22 rfl (pcl_v (n := 1) rfl rfl rfl (by decide +kernel) (sh_isOb hs (tlt 169 rfl) tbC_169) rfl rfl) rfl <| c245 hs ⟨by decide, by decide⟩ (by decide) <| w_rz b273 d273_25 r273 (by decide) (((h.2.2 c1).2.2 c3) _ rfl)))
theorem e273 {w : PW} {Q : PO → PW → Prop} {x1 : Int} {x2 : Int} (hs : Sh w) (hx1 : bd x1) (hx2 : bd x2) (h : (bd ((gI w 170 1) - 1)) ∧ ((¬ (0 ≤ x1 ∧ x1 < gI w 170 1)) → ∀ w2 : PW, w2 = sI w 169 0 1 → Q (.inl (some (iv 1))) w2) ∧ ((0 ≤ x1 ∧ x1 < gI w 170 1) → (bd ((gI w 170 0) - 1)) ∧ ((0 ≤ x2 ∧ x2 < gI w 170 0) → ∀ w4 : PW, w4 = sI w 169 0 0 → Q (.inl (some (iv 0))) w4) ∧ ((¬ (0 ≤ x2 ∧ x2 < gI w 170 0)) → ∀ w5 : PW, w5 = sI w 169 0 1 → Q (.inl (some (iv 1))) w5))) : pC 273 [.ref 169, iv x1, iv x2] w Q :=
  (pC_in (Nat.le_of_ble_eq_true rfl) rfl Q).mpr (v273_0 hs hx1 hx2 h)
theorem c273 {w : PW} {Q : PO → PW → Prop} {x1 x2 : Int} (hs : Sh w) (hx1 : bd x1) (hx2 : bd x2) (hp : bd ((gI w 170 1) - 1)) (hp2 : bd ((gI w 170 0) - 1)) (h1 : (0 ≤ x1 ∧ x1 < gI w 170 1) ∧ (0 ≤ x2 ∧ x2 < gI w 170 0) → Q (.inl (some (iv 0))) (sI w 169 0 0)) (h2 : ¬ ((0 ≤ x1 ∧ x1 < gI w 170 1) ∧ (0 ≤ x2 ∧ x2 < gI w 170 0)) → Q (.inl (some (iv 1))) (sI w 169 0 1)) : pC 273 [.ref 169, iv x1, iv x2] w Q :=
  e273 hs hx1 hx2 ⟨hp, fun q _ e => by subst e; exact h2 (fun z => q z.1), fun q => ⟨hp2, fun q2 _ e => by subst e; exact h1 ⟨q, q2⟩, fun q2 _ e => by subst e; exact h2 (fun z => q2 z.2)⟩⟩
/-! 275: PinBarrelModel.noTune(I)Z -/
theorem b275 : mB 275 = cX9_noTune := rfl
theorem r275 : mR 275 = (some .boolean) := rfl
theorem p275 (a b : Nat) : phi 275 a ≤ phi 275 b := Nat.le_refl 0
theorem d275_0 : decode cX9_noTune 0 = .ok (.aload_n 0, 1) := by decide +kernel
theorem d275_1 : decode cX9_noTune 1 = .ok (.aload_n 0, 1) := by decide +kernel
theorem d275_2 : decode cX9_noTune 2 = .ok (.iload_n 1, 1) := by decide +kernel
theorem d275_3 : decode cX9_noTune 3 = .ok (.invokevirtual 340, 3) := by decide +kernel
theorem d275_6 : decode cX9_noTune 6 = .ok (.ifCond .ne 7, 3) := by decide +kernel
theorem d275_9 : decode cX9_noTune 9 = .ok (.iconst 1, 1) := by decide +kernel
theorem d275_10 : decode cX9_noTune 10 = .ok (.goto 4, 3) := by decide +kernel
theorem d275_13 : decode cX9_noTune 13 = .ok (.iconst 0, 1) := by decide +kernel
theorem d275_14 : decode cX9_noTune 14 = .ok (.invokevirtual 328, 3) := by decide +kernel
theorem d275_17 : decode cX9_noTune 17 = .ok (.ireturn, 1) := by decide +kernel
theorem v275_0 {w : PW} {Q : PO → PW → Prop} {x1 : Int} (hs : Sh w) (hx1 : bd x1) (h : (bd ((gI w 170 1) - 1)) ∧ ((0 ≤ x1 ∧ x1 < gI w 170 1) → ∀ w2 : PW, w2 = sI w 169 0 0 → Q (.inl (some (iv 0))) w2) ∧ ((¬ (0 ≤ x1 ∧ x1 < gI w 170 1)) → ∀ w3 : PW, w3 = sI w 169 0 1 → Q (.inl (some (iv 1))) w3)) : pX 275 0 [some (.ref 169), some (iv x1)] [] w Q :=
  w_f b275 d275_0 rfl rfl rfl <| w_f b275 d275_1 rfl rfl rfl <| w_f b275 d275_2 rfl rfl rfl <| w_cc b275 d275_3 rfl (pcl_v (n := 1) rfl rfl rfl (by decide +kernel) (sh_isOb hs (tlt 169 rfl) tbC_169) rfl rfl) rfl <| c271 hs hx1 h.1 <| w_ifneZ b275 d275_6 rfl rfl (p275 _ _) (fun c1 => w_f b275 d275_13 rfl rfl rfl <| w_cc b275 d275_14 rfl (pcl_v (n := 1) rfl rfl rfl (by decide +kernel) (sh_isOb hs (tlt 169 rfl) tbC_169) rfl rfl) rfl <| c245 hs ⟨by decide, by decide⟩ (by decide) <| w_rz b275 d275_17 r275 (by decide) ((h.2.1 c1) _ rfl)) (fun c1 => w_f b275 d275_9 rfl rfl rfl <| w_j b275 d275_10 rfl (p275 _ _) <| w_cc b275 d275_14 rfl (pcl_v (n := 1) rfl rfl rfl (by decide +kernel) (sh_isOb hs (tlt 169 rfl) tbC_169) rfl rfl) rfl <| c245 hs ⟨by decide, by decide⟩ (by decide) <| w_rz b275 d275_17 r275 (by decide) ((h.2.2 c1) _ rfl))
theorem e275 {w : PW} {Q : PO → PW → Prop} {x1 : Int} (hs : Sh w) (hx1 : bd x1) (h : (bd ((gI w 170 1) - 1)) ∧ ((0 ≤ x1 ∧ x1 < gI w 170 1) → ∀ w2 : PW, w2 = sI w 169 0 0 → Q (.inl (some (iv 0))) w2) ∧ ((¬ (0 ≤ x1 ∧ x1 < gI w 170 1)) → ∀ w3 : PW, w3 = sI w 169 0 1 → Q (.inl (some (iv 1))) w3)) : pC 275 [.ref 169, iv x1] w Q :=
  (pC_in (Nat.le_of_ble_eq_true rfl) rfl Q).mpr (v275_0 hs hx1 h)
theorem c275 {w : PW} {Q : PO → PW → Prop} {x1 : Int} (hs : Sh w) (hx1 : bd x1) (hp : bd ((gI w 170 1) - 1)) (h1 : 0 ≤ x1 ∧ x1 < gI w 170 1 → Q (.inl (some (iv 0))) (sI w 169 0 0)) (h2 : ¬ (0 ≤ x1 ∧ x1 < gI w 170 1) → Q (.inl (some (iv 1))) (sI w 169 0 1)) : pC 275 [.ref 169, iv x1] w Q :=
  e275 hs hx1 ⟨hp, fun q _ e => by subst e; exact h1 q, fun q _ e => by subst e; exact h2 q⟩
/-! 309: PinBarrelModel.isPitch(I)Z -/
theorem b309 : mB 309 = cX9_isPitch := rfl
theorem r309 : mR 309 = (some .boolean) := rfl
theorem p309 (a b : Nat) : phi 309 a ≤ phi 309 b := Nat.le_refl 0
theorem d309_0 : decode cX9_isPitch 0 = .ok (.iload_n 0, 1) := by decide +kernel
theorem d309_1 : decode cX9_isPitch 1 = .ok (.i2l, 1) := by decide +kernel
theorem d309_2 : decode cX9_isPitch 2 = .ok (.lconst 0, 1) := by decide +kernel
theorem d309_3 : decode cX9_isPitch 3 = .ok (.ldc2_w 338, 3) := by decide +kernel
theorem d309_6 : decode cX9_isPitch 6 = .ok (.invokestatic 81, 3) := by decide +kernel
theorem d309_9 : decode cX9_isPitch 9 = .ok (.ireturn, 1) := by decide +kernel
theorem v309_0 {w : PW} {Q : PO → PW → Prop} {x0 : Int} (hs : Sh w) (hx0 : bd x0) (h : Q (.inl (some (iv (if ((0 : Int64)).toInt ≤ (i2L x0).toInt ∧ (i2L x0).toInt ≤ ((23 : Int64)).toInt then 1 else 0)))) w) : pX 309 0 [some (iv x0)] [] w Q :=
  w_f b309 d309_0 rfl rfl rfl <| w_f b309 d309_1 rfl rfl rfl <| w_f b309 d309_2 rfl rfl rfl <| w_ldcL b309 d309_3 rfl rfl <| w_cc b309 d309_6 rfl (pcl_s1 (n := 3) rfl rfl rfl (by decide +kernel) rfl rfl) rfl <| c221 hs <| w_rz b309 d309_9 r309 (zor _) h
theorem e309 {w : PW} {Q : PO → PW → Prop} {x0 : Int} (hs : Sh w) (hx0 : bd x0) (h : Q (.inl (some (iv (if ((0 : Int64)).toInt ≤ (i2L x0).toInt ∧ (i2L x0).toInt ≤ ((23 : Int64)).toInt then 1 else 0)))) w) : pC 309 [iv x0] w Q :=
  (pC_in (Nat.le_of_ble_eq_true rfl) rfl Q).mpr (v309_0 hs hx0 h)
theorem c309 {w : PW} {Q : PO → PW → Prop} {x0 : Int} (hs : Sh w) (hx0 : bd x0) (h : Q (.inl (some (iv (if 0 ≤ x0 ∧ x0 ≤ 23 then 1 else 0)))) w) : pC 309 [iv x0] w Q := by
  refine e309 hs hx0 ?_
  rw [i2L_toInt hx0, show (0 : Int64).toInt = 0 from by decide, show (23 : Int64).toInt = 23 from by decide]
  exact h
/-! 317: PinBarrelModel.isRun(I)Z -/
theorem b317 : mB 317 = cX9_isRun := rfl
theorem r317 : mR 317 = (some .boolean) := rfl
theorem p317 (a b : Nat) : phi 317 a ≤ phi 317 b := Nat.le_refl 0
theorem d317_0 : decode cX9_isRun 0 = .ok (.iload_n 0, 1) := by decide +kernel
theorem d317_1 : decode cX9_isRun 1 = .ok (.i2l, 1) := by decide +kernel
theorem d317_2 : decode cX9_isRun 2 = .ok (.lconst 1, 1) := by decide +kernel
theorem d317_3 : decode cX9_isRun 3 = .ok (.ldc2_w 411, 3) := by decide +kernel
theorem d317_6 : decode cX9_isRun 6 = .ok (.invokestatic 81, 3) := by decide +kernel
theorem d317_9 : decode cX9_isRun 9 = .ok (.ireturn, 1) := by decide +kernel
theorem v317_0 {w : PW} {Q : PO → PW → Prop} {x0 : Int} (hs : Sh w) (hx0 : bd x0) (h : Q (.inl (some (iv (if ((1 : Int64)).toInt ≤ (i2L x0).toInt ∧ (i2L x0).toInt ≤ ((200 : Int64)).toInt then 1 else 0)))) w) : pX 317 0 [some (iv x0)] [] w Q :=
  w_f b317 d317_0 rfl rfl rfl <| w_f b317 d317_1 rfl rfl rfl <| w_f b317 d317_2 rfl rfl rfl <| w_ldcL b317 d317_3 rfl rfl <| w_cc b317 d317_6 rfl (pcl_s1 (n := 3) rfl rfl rfl (by decide +kernel) rfl rfl) rfl <| c221 hs <| w_rz b317 d317_9 r317 (zor _) h
theorem e317 {w : PW} {Q : PO → PW → Prop} {x0 : Int} (hs : Sh w) (hx0 : bd x0) (h : Q (.inl (some (iv (if ((1 : Int64)).toInt ≤ (i2L x0).toInt ∧ (i2L x0).toInt ≤ ((200 : Int64)).toInt then 1 else 0)))) w) : pC 317 [iv x0] w Q :=
  (pC_in (Nat.le_of_ble_eq_true rfl) rfl Q).mpr (v317_0 hs hx0 h)
theorem c317 {w : PW} {Q : PO → PW → Prop} {x0 : Int} (hs : Sh w) (hx0 : bd x0) (h : Q (.inl (some (iv (if 1 ≤ x0 ∧ x0 ≤ 200 then 1 else 0)))) w) : pC 317 [iv x0] w Q := by
  refine e317 hs hx0 ?_
  rw [i2L_toInt hx0, show (1 : Int64).toInt = 1 from by decide, show (200 : Int64).toInt = 200 from by decide]
  exact h
/-! 329: PinBarrelModel.isRest(I)Z -/
theorem b329 : mB 329 = cX9_isRest := rfl
theorem r329 : mR 329 = (some .boolean) := rfl
theorem p329 (a b : Nat) : phi 329 a ≤ phi 329 b := Nat.le_refl 0
theorem d329_0 : decode cX9_isRest 0 = .ok (.iload_n 0, 1) := by decide +kernel
theorem d329_1 : decode cX9_isRest 1 = .ok (.i2l, 1) := by decide +kernel
theorem d329_2 : decode cX9_isRest 2 = .ok (.lconst 1, 1) := by decide +kernel
theorem d329_3 : decode cX9_isRest 3 = .ok (.ldc2_w 422, 3) := by decide +kernel
theorem d329_6 : decode cX9_isRest 6 = .ok (.invokestatic 81, 3) := by decide +kernel
theorem d329_9 : decode cX9_isRest 9 = .ok (.ireturn, 1) := by decide +kernel
theorem v329_0 {w : PW} {Q : PO → PW → Prop} {x0 : Int} (hs : Sh w) (hx0 : bd x0) (h : Q (.inl (some (iv (if ((1 : Int64)).toInt ≤ (i2L x0).toInt ∧ (i2L x0).toInt ≤ ((12 : Int64)).toInt then 1 else 0)))) w) : pX 329 0 [some (iv x0)] [] w Q :=
  w_f b329 d329_0 rfl rfl rfl <| w_f b329 d329_1 rfl rfl rfl <| w_f b329 d329_2 rfl rfl rfl <| w_ldcL b329 d329_3 rfl rfl <| w_cc b329 d329_6 rfl (pcl_s1 (n := 3) rfl rfl rfl (by decide +kernel) rfl rfl) rfl <| c221 hs <| w_rz b329 d329_9 r329 (zor _) h
theorem e329 {w : PW} {Q : PO → PW → Prop} {x0 : Int} (hs : Sh w) (hx0 : bd x0) (h : Q (.inl (some (iv (if ((1 : Int64)).toInt ≤ (i2L x0).toInt ∧ (i2L x0).toInt ≤ ((12 : Int64)).toInt then 1 else 0)))) w) : pC 329 [iv x0] w Q :=
  (pC_in (Nat.le_of_ble_eq_true rfl) rfl Q).mpr (v329_0 hs hx0 h)
theorem c329 {w : PW} {Q : PO → PW → Prop} {x0 : Int} (hs : Sh w) (hx0 : bd x0) (h : Q (.inl (some (iv (if 1 ≤ x0 ∧ x0 ≤ 12 then 1 else 0)))) w) : pC 329 [iv x0] w Q := by
  refine e329 hs hx0 ?_
  rw [i2L_toInt hx0, show (1 : Int64).toInt = 1 from by decide, show (12 : Int64).toInt = 12 from by decide]
  exact h
