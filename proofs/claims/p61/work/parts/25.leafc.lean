/-! THE LEAVES of the class and of the model: their contracts -/
/-- the class's pins on a track; none beside -/
def lP (w : PW) (b : Nat) (x : Int) : Int64 := if 0 ≤ x ∧ x < 36 then gL w (b + 3) x.toNat else 0
def lT (w : PW) (x : Int) : Int64 := if 0 ≤ x ∧ x < 36 then gL w 142 x.toNat else 0
def wrp (x s : Int) : Int := if x < s then x else x - s
def lAll (n : Int) : Int64 := if n < 64 then lShl 1 n - 1 else -1
def lMov (x : Int64) (k s : Int) : Int64 := if k ≤ 0 then x else if k < s then (lShl x k ||| lUsh x (s - k)) &&& lAll s else x
def lNear (a n s : Int) : Int64 := if 0 < n then (if n < s then lMov (lAll n) a s ||| lMov (lMov (lAll n) a s) (s - n + 1) s else lAll s) else 0
def nmC (z : Int) : Nat := if z < 0 ∨ 10 < z then 20 else 9 + z.toNat
def nmM (z : Int) : Nat := if z < 0 ∨ 10 < z then 32 else 21 + z.toNat
def mOn (w : PW) (x s : Int) : Bool := tI (gI w 170 (251 + 64 * (x % gI w 170 1) + s).toNat) (x / gI w 170 1).toNat
def wayI (s a b : Int) : Int := if b ≤ a then b - a + s else b - a
def nearI (s a b n : Int) : Bool := decide ((a = b ∧ 0 < n) ∨ (a ≠ b ∧ (wayI s a b < n ∨ wayI s b a < n)))
theorem bd_wrp {x s : Int} (hx : bd x) (hs : bd (x - s)) : bd (wrp x s) := by
  unfold wrp
  split
  · exact hx
  · exact hs

/-! 14: PinBarrel$Reader.fail(II)Z -/
theorem b14 : mB 14 = cX4_fail := rfl
theorem r14 : mR 14 = (some .boolean) := rfl
theorem p14 (a b : Nat) : phi 14 a ≤ phi 14 b := Nat.le_refl 0
theorem d14_0 : decode cX4_fail 0 = .ok (.aload_n 0, 1) := by decide +kernel
theorem d14_1 : decode cX4_fail 1 = .ok (.iload_n 1, 1) := by decide +kernel
theorem d14_2 : decode cX4_fail 2 = .ok (.putfield 19, 3) := by decide +kernel
theorem d14_5 : decode cX4_fail 5 = .ok (.aload_n 0, 1) := by decide +kernel
theorem d14_6 : decode cX4_fail 6 = .ok (.iload_n 2, 1) := by decide +kernel
theorem d14_7 : decode cX4_fail 7 = .ok (.putfield 22, 3) := by decide +kernel
theorem d14_10 : decode cX4_fail 10 = .ok (.iconst 0, 1) := by decide +kernel
theorem d14_11 : decode cX4_fail 11 = .ok (.ireturn, 1) := by decide +kernel
theorem v14_0 {w : PW} {Q : PO → PW → Prop} {x1 : Int} {x2 : Int} (hs : Sh w) (hx1 : bd x1) (hx2 : bd x2) (h : ∀ w1 : PW, w1 = sI w 135 2 x1 → ∀ w2 : PW, w2 = sI w1 135 3 x2 → Q (.inl (some (iv 0))) w2) : pX 14 0 [some (.ref 135), some (iv x1), some (iv x2)] [] w Q :=
  w_f b14 d14_0 rfl rfl rfl <| w_f b14 d14_1 rfl rfl rfl <| w_pi b14 d14_2 rfl rfl hs (tlt 135 rfl) tbC_135 rfl rfl rfl <| w_f b14 d14_5 rfl rfl rfl <| w_f b14 d14_6 rfl rfl rfl <| w_pi b14 d14_7 rfl rfl (Sh_sI hs (slt_o tbC_135 rfl)) (tlt 135 rfl) tbC_135 rfl rfl rfl <| w_f b14 d14_10 rfl rfl rfl <| w_rz b14 d14_11 r14 (by decide) ((h _ rfl) _ rfl)
theorem e14 {w : PW} {Q : PO → PW → Prop} {x1 : Int} {x2 : Int} (hs : Sh w) (hx1 : bd x1) (hx2 : bd x2) (h : ∀ w1 : PW, w1 = sI w 135 2 x1 → ∀ w2 : PW, w2 = sI w1 135 3 x2 → Q (.inl (some (iv 0))) w2) : pC 14 [.ref 135, iv x1, iv x2] w Q :=
  (pC_in (Nat.le_of_ble_eq_true rfl) rfl Q).mpr (v14_0 hs hx1 hx2 h)
theorem c14 {w : PW} {Q : PO → PW → Prop} {x1 x2 : Int} (hs : Sh w) (hx1 : bd x1) (hx2 : bd x2) (h : Q (.inl (some (iv 0))) (sI (sI w 135 2 x1) 135 3 x2)) : pC 14 [.ref 135, iv x1, iv x2] w Q := e14 hs hx1 hx2 (fun _ e1 _ e2 => by subst e1; subst e2; exact h)
/-! 22: PinBarrel$Writer.nameOf(I)Ljava/lang/String; -/
theorem b22 : mB 22 = cX7_nameOf := rfl
theorem r22 : mR 22 = (some (.object "java/lang/String")) := rfl
theorem p22 (a b : Nat) : phi 22 a ≤ phi 22 b := Nat.le_refl 0
theorem d22_0 : decode cX7_nameOf 0 = .ok (.iload_n 0, 1) := by decide +kernel
theorem d22_1 : decode cX7_nameOf 1 = .ok (.tableswitch 92 0 10 #[59, 62, 65, 68, 71, 74, 77, 80, 83, 86, 89], 59) := by decide +kernel
theorem d22_60 : decode cX7_nameOf 60 = .ok (.ldc 36, 2) := by decide +kernel
theorem d22_62 : decode cX7_nameOf 62 = .ok (.areturn, 1) := by decide +kernel
theorem d22_63 : decode cX7_nameOf 63 = .ok (.ldc 38, 2) := by decide +kernel
theorem d22_65 : decode cX7_nameOf 65 = .ok (.areturn, 1) := by decide +kernel
theorem d22_66 : decode cX7_nameOf 66 = .ok (.ldc 40, 2) := by decide +kernel
theorem d22_68 : decode cX7_nameOf 68 = .ok (.areturn, 1) := by decide +kernel
theorem d22_69 : decode cX7_nameOf 69 = .ok (.ldc 42, 2) := by decide +kernel
theorem d22_71 : decode cX7_nameOf 71 = .ok (.areturn, 1) := by decide +kernel
theorem d22_72 : decode cX7_nameOf 72 = .ok (.ldc 44, 2) := by decide +kernel
theorem d22_74 : decode cX7_nameOf 74 = .ok (.areturn, 1) := by decide +kernel
theorem d22_75 : decode cX7_nameOf 75 = .ok (.ldc 46, 2) := by decide +kernel
theorem d22_77 : decode cX7_nameOf 77 = .ok (.areturn, 1) := by decide +kernel
theorem d22_78 : decode cX7_nameOf 78 = .ok (.ldc 48, 2) := by decide +kernel
theorem d22_80 : decode cX7_nameOf 80 = .ok (.areturn, 1) := by decide +kernel
theorem d22_81 : decode cX7_nameOf 81 = .ok (.ldc 50, 2) := by decide +kernel
theorem d22_83 : decode cX7_nameOf 83 = .ok (.areturn, 1) := by decide +kernel
theorem d22_84 : decode cX7_nameOf 84 = .ok (.ldc 52, 2) := by decide +kernel
theorem d22_86 : decode cX7_nameOf 86 = .ok (.areturn, 1) := by decide +kernel
theorem d22_87 : decode cX7_nameOf 87 = .ok (.ldc 54, 2) := by decide +kernel
theorem d22_89 : decode cX7_nameOf 89 = .ok (.areturn, 1) := by decide +kernel
theorem d22_90 : decode cX7_nameOf 90 = .ok (.ldc 56, 2) := by decide +kernel
theorem d22_92 : decode cX7_nameOf 92 = .ok (.areturn, 1) := by decide +kernel
theorem d22_93 : decode cX7_nameOf 93 = .ok (.ldc 58, 2) := by decide +kernel
theorem d22_95 : decode cX7_nameOf 95 = .ok (.areturn, 1) := by decide +kernel
theorem v22_0 {w : PW} {Q : PO → PW → Prop} {x0 : Int} (hs : Sh w) (hx0 : bd x0) (h : (x0 < 0 ∨ 10 < x0 → Q (.inl (some (.ref (pSB + 20)))) w) ∧ (x0 = 0 → Q (.inl (some (.ref (pSB + 9)))) w) ∧ (x0 = 1 → Q (.inl (some (.ref (pSB + 10)))) w) ∧ (x0 = 2 → Q (.inl (some (.ref (pSB + 11)))) w) ∧ (x0 = 3 → Q (.inl (some (.ref (pSB + 12)))) w) ∧ (x0 = 4 → Q (.inl (some (.ref (pSB + 13)))) w) ∧ (x0 = 5 → Q (.inl (some (.ref (pSB + 14)))) w) ∧ (x0 = 6 → Q (.inl (some (.ref (pSB + 15)))) w) ∧ (x0 = 7 → Q (.inl (some (.ref (pSB + 16)))) w) ∧ (x0 = 8 → Q (.inl (some (.ref (pSB + 17)))) w) ∧ (x0 = 9 → Q (.inl (some (.ref (pSB + 18)))) w) ∧ (x0 = 10 → Q (.inl (some (.ref (pSB + 19)))) w)) : pX 22 0 [some (iv x0)] [] w Q :=
  w_f b22 d22_0 rfl rfl rfl <| Decidable.byCases (p := x0 < 0 ∨ 10 < x0) (fun c1 => w_tsO b22 d22_1 rfl (p22 _ _) hx0 c1 <| w_ldcS b22 d22_93 rfl rfl <| w_ra b22 d22_95 r22 (h.1 c1)) (fun cz => Decidable.byCases (p := x0 = 0) (fun c1 => w_tsI (off := 59) b22 d22_1 rfl (p22 _ _) hx0 cz (by rw [c1]; rfl) <| w_ldcS b22 d22_60 rfl rfl <| w_ra b22 d22_62 r22 (h.2.1 c1)) (fun cn0 => Decidable.byCases (p := x0 = 1) (fun c1 => w_tsI (off := 62) b22 d22_1 rfl (p22 _ _) hx0 cz (by rw [c1]; rfl) <| w_ldcS b22 d22_63 rfl rfl <| w_ra b22 d22_65 r22 (h.2.2.1 c1)) (fun cn1 => Decidable.byCases (p := x0 = 2) (fun c1 => w_tsI (off := 65) b22 d22_1 rfl (p22 _ _) hx0 cz (by rw [c1]; rfl) <| w_ldcS b22 d22_66 rfl rfl <| w_ra b22 d22_68 r22 (h.2.2.2.1 c1)) (fun cn2 => Decidable.byCases (p := x0 = 3) (fun c1 => w_tsI (off := 68) b22 d22_1 rfl (p22 _ _) hx0 cz (by rw [c1]; rfl) <| w_ldcS b22 d22_69 rfl rfl <| w_ra b22 d22_71 r22 (h.2.2.2.2.1 c1)) (fun cn3 => Decidable.byCases (p := x0 = 4) (fun c1 => w_tsI (off := 71) b22 d22_1 rfl (p22 _ _) hx0 cz (by rw [c1]; rfl) <| w_ldcS b22 d22_72 rfl rfl <| w_ra b22 d22_74 r22 (h.2.2.2.2.2.1 c1)) (fun cn4 => Decidable.byCases (p := x0 = 5) (fun c1 => w_tsI (off := 74) b22 d22_1 rfl (p22 _ _) hx0 cz (by rw [c1]; rfl) <| w_ldcS b22 d22_75 rfl rfl <| w_ra b22 d22_77 r22 (h.2.2.2.2.2.2.1 c1)) (fun cn5 => Decidable.byCases (p := x0 = 6) (fun c1 => w_tsI (off := 77) b22 d22_1 rfl (p22 _ _) hx0 cz (by rw [c1]; rfl) <| w_ldcS b22 d22_78 rfl rfl <| w_ra b22 d22_80 r22 (h.2.2.2.2.2.2.2.1 c1)) (fun cn6 => Decidable.byCases (p := x0 = 7) (fun c1 => w_tsI (off := 80) b22 d22_1 rfl (p22 _ _) hx0 cz (by rw [c1]; rfl) <| w_ldcS b22 d22_81 rfl rfl <| w_ra b22 d22_83 r22 (h.2.2.2.2.2.2.2.2.1 c1)) (fun cn7 => Decidable.byCases (p := x0 = 8) (fun c1 => w_tsI (off := 83) b22 d22_1 rfl (p22 _ _) hx0 cz (by rw [c1]; rfl) <| w_ldcS b22 d22_84 rfl rfl <| w_ra b22 d22_86 r22 (h.2.2.2.2.2.2.2.2.2.1 c1)) (fun cn8 => Decidable.byCases (p := x0 = 9) (fun c1 => w_tsI (off := 86) b22 d22_1 rfl (p22 _ _) hx0 cz (by rw [c1]; rfl) <| w_ldcS b22 d22_87 rfl rfl <| w_ra b22 d22_89 r22 (h.2.2.2.2.2.2.2.2.2.2.1 c1)) (fun cn9 => have c1 : x0 = 10 := by omega
  w_tsI (off := 89) b22 d22_1 rfl (p22 _ _) hx0 cz (by rw [c1]; rfl) <| w_ldcS b22 d22_90 rfl rfl <| w_ra b22 d22_92 r22 (h.2.2.2.2.2.2.2.2.2.2.2 c1))))))))))))
theorem e22 {w : PW} {Q : PO → PW → Prop} {x0 : Int} (hs : Sh w) (hx0 : bd x0) (h : (x0 < 0 ∨ 10 < x0 → Q (.inl (some (.ref (pSB + 20)))) w) ∧ (x0 = 0 → Q (.inl (some (.ref (pSB + 9)))) w) ∧ (x0 = 1 → Q (.inl (some (.ref (pSB + 10)))) w) ∧ (x0 = 2 → Q (.inl (some (.ref (pSB + 11)))) w) ∧ (x0 = 3 → Q (.inl (some (.ref (pSB + 12)))) w) ∧ (x0 = 4 → Q (.inl (some (.ref (pSB + 13)))) w) ∧ (x0 = 5 → Q (.inl (some (.ref (pSB + 14)))) w) ∧ (x0 = 6 → Q (.inl (some (.ref (pSB + 15)))) w) ∧ (x0 = 7 → Q (.inl (some (.ref (pSB + 16)))) w) ∧ (x0 = 8 → Q (.inl (some (.ref (pSB + 17)))) w) ∧ (x0 = 9 → Q (.inl (some (.ref (pSB + 18)))) w) ∧ (x0 = 10 → Q (.inl (some (.ref (pSB + 19)))) w)) : pC 22 [iv x0] w Q :=
  (pC_in (Nat.le_of_ble_eq_true rfl) rfl Q).mpr (v22_0 hs hx0 h)
theorem c22 {w : PW} {Q : PO → PW → Prop} {x0 : Int} (hs : Sh w) (hx0 : bd x0) (h : Q (.inl (some (.ref (pSB + nmC x0)))) w) : pC 22 [iv x0] w Q := by
  refine e22 hs hx0 ⟨fun q => ?_, fun q => ?_, fun q => ?_, fun q => ?_, fun q => ?_, fun q => ?_, fun q => ?_, fun q => ?_, fun q => ?_, fun q => ?_, fun q => ?_, fun q => ?_⟩
  · unfold nmC at h; rw [if_pos q] at h; exact h
  all_goals (subst q; exact h)
/-! 28: PinBarrel$Box.trackOf(II)I -/
theorem b28 : mB 28 = cX0_trackOf := rfl
theorem r28 : mR 28 = (some .int) := rfl
theorem p28 (a b : Nat) : phi 28 a ≤ phi 28 b := Nat.le_refl 0
theorem d28_0 : decode cX0_trackOf 0 = .ok (.aload_n 0, 1) := by decide +kernel
theorem d28_1 : decode cX0_trackOf 1 = .ok (.getfield 15, 3) := by decide +kernel
theorem d28_4 : decode cX0_trackOf 4 = .ok (.iload_n 2, 1) := by decide +kernel
theorem d28_5 : decode cX0_trackOf 5 = .ok (.imul, 1) := by decide +kernel
theorem d28_6 : decode cX0_trackOf 6 = .ok (.iload_n 1, 1) := by decide +kernel
theorem d28_7 : decode cX0_trackOf 7 = .ok (.iadd, 1) := by decide +kernel
theorem d28_8 : decode cX0_trackOf 8 = .ok (.ireturn, 1) := by decide +kernel
theorem v28_0 {w : PW} {Q : PO → PW → Prop} {b : Nat} {x1 : Int} {x2 : Int} (hs : Sh w) (hb : bx b) (hx1 : bd x1) (hx2 : bd x2) (h : Q (.inl (some (iv (((gI w b 1) * x2) + x1)))) w) : pX 28 0 [some (.ref b), some (iv x1), some (iv x2)] [] w Q :=
  w_f b28 d28_0 rfl rfl rfl <| w_gi b28 d28_1 rfl rfl hs (bx00 hb) (tb0 hb) rfl <| w_f b28 d28_4 rfl rfl rfl <| w_f b28 d28_5 rfl (pf_imul (gI w b 1) x2) rfl <| w_f b28 d28_6 rfl rfl rfl <| w_f b28 d28_7 rfl (pf_iadd ((gI w b 1) * x2) x1) rfl <| w_ri b28 d28_8 r28 h
theorem e28 {w : PW} {Q : PO → PW → Prop} {b : Nat} {x1 : Int} {x2 : Int} (hs : Sh w) (hb : bx b) (hx1 : bd x1) (hx2 : bd x2) (h : Q (.inl (some (iv (((gI w b 1) * x2) + x1)))) w) : pC 28 [.ref b, iv x1, iv x2] w Q :=
  (pC_in (Nat.le_of_ble_eq_true rfl) rfl Q).mpr (v28_0 hs hb hx1 hx2 h)
theorem c28 {w : PW} {Q : PO → PW → Prop} {b : Nat} {x1 x2 : Int} (hs : Sh w) (hb : bx b) (hx1 : bd x1) (hx2 : bd x2) (h : Q (.inl (some (iv ((gI w b 1) * x2 + x1)))) w) : pC 28 [.ref b, iv x1, iv x2] w Q := e28 hs hb hx1 hx2 h
/-! 29: PinBarrel$Box.pinsOn(I)J -/
theorem b29 : mB 29 = cX0_pinsOn := rfl
theorem r29 : mR 29 = (some .long) := rfl
theorem p29 (a b : Nat) : phi 29 a ≤ phi 29 b := Nat.le_refl 0
theorem d29_0 : decode cX0_pinsOn 0 = .ok (.iload_n 1, 1) := by decide +kernel
theorem d29_1 : decode cX0_pinsOn 1 = .ok (.ifCond .lt 9, 3) := by decide +kernel
theorem d29_4 : decode cX0_pinsOn 4 = .ok (.iload_n 1, 1) := by decide +kernel
theorem d29_5 : decode cX0_pinsOn 5 = .ok (.bipush 36, 2) := by decide +kernel
theorem d29_7 : decode cX0_pinsOn 7 = .ok (.if_icmp .lt 7, 3) := by decide +kernel
theorem d29_10 : decode cX0_pinsOn 10 = .ok (.lconst 0, 1) := by decide +kernel
theorem d29_11 : decode cX0_pinsOn 11 = .ok (.goto 9, 3) := by decide +kernel
theorem d29_14 : decode cX0_pinsOn 14 = .ok (.aload_n 0, 1) := by decide +kernel
theorem d29_15 : decode cX0_pinsOn 15 = .ok (.getfield 34, 3) := by decide +kernel
theorem d29_18 : decode cX0_pinsOn 18 = .ok (.iload_n 1, 1) := by decide +kernel
theorem d29_19 : decode cX0_pinsOn 19 = .ok (.laload, 1) := by decide +kernel
theorem d29_20 : decode cX0_pinsOn 20 = .ok (.lreturn, 1) := by decide +kernel
theorem v29_0 {w : PW} {Q : PO → PW → Prop} {b : Nat} {x1 : Int} (hs : Sh w) (hb : bx b) (hx1 : bd x1) (h : (x1 < 0 → Q (.inl (some (.long ((0 : Int64))))) w) ∧ (0 ≤ x1 → (x1 < 36 → (0 ≤ x1 ∧ x1 < 36) ∧ Q (.inl (some (.long (gL w (b + 3) x1.toNat)))) w) ∧ (36 ≤ x1 → Q (.inl (some (.long ((0 : Int64))))) w))) : pX 29 0 [some (.ref b), some (iv x1)] [] w Q :=
  w_f b29 d29_0 rfl rfl rfl <| w_iflt b29 d29_1 rfl rfl (p29 _ _) hx1 (fun c1 => w_f b29 d29_10 rfl rfl rfl <| w_j b29 d29_11 rfl (p29 _ _) <| w_rl b29 d29_20 r29 (h.1 c1)) (fun c1 => w_f b29 d29_4 rfl rfl rfl <| w_f b29 d29_5 rfl rfl rfl <| w_iclt b29 d29_7 rfl rfl (p29 _ _) hx1 ⟨by decide, by decide⟩ (fun c2 => w_f b29 d29_14 rfl rfl rfl <| w_gr b29 d29_15 rfl rfl hs (bx00 hb) (tb0 hb) rfl (bxr hb 3 rfl) <| w_f b29 d29_18 rfl rfl rfl <| w_lal b29 d29_19 rfl hs (bxk hb 3 rfl) (tb3 hb) (bdix (n := 36) ((h.2 c1).1 c2).1 rfl) ((h.2 c1).1 c2).1 <| w_rl b29 d29_20 r29 ((h.2 c1).1 c2).2) (fun c2 => w_f b29 d29_10 rfl rfl rfl <| w_j b29 d29_11 rfl (p29 _ _) <| w_rl b29 d29_20 r29 ((h.2 c1).2 c2)))
theorem e29 {w : PW} {Q : PO → PW → Prop} {b : Nat} {x1 : Int} (hs : Sh w) (hb : bx b) (hx1 : bd x1) (h : (x1 < 0 → Q (.inl (some (.long ((0 : Int64))))) w) ∧ (0 ≤ x1 → (x1 < 36 → (0 ≤ x1 ∧ x1 < 36) ∧ Q (.inl (some (.long (gL w (b + 3) x1.toNat)))) w) ∧ (36 ≤ x1 → Q (.inl (some (.long ((0 : Int64))))) w))) : pC 29 [.ref b, iv x1] w Q :=
  (pC_in (Nat.le_of_ble_eq_true rfl) rfl Q).mpr (v29_0 hs hb hx1 h)
theorem c29 {w : PW} {Q : PO → PW → Prop} {b : Nat} {x1 : Int} (hs : Sh w) (hb : bx b) (hx1 : bd x1) (h : Q (.inl (some (.long (lP w b x1)))) w) : pC 29 [.ref b, iv x1] w Q := by
  refine e29 hs hb hx1 ⟨fun q => ?_, fun q => ⟨fun q2 => ⟨⟨q, q2⟩, ?_⟩, fun q2 => ?_⟩⟩
  · unfold lP at h; rw [if_neg (by omega)] at h; exact h
  · unfold lP at h; rw [if_pos ⟨q, q2⟩] at h; exact h
  · unfold lP at h; rw [if_neg (by omega)] at h; exact h
/-! 42: PinBarrel$Ring.holds(JI)Z -/
theorem b42 : mB 42 = cX5_holds := rfl
theorem r42 : mR 42 = (some .boolean) := rfl
theorem p42 (a b : Nat) : phi 42 a ≤ phi 42 b := Nat.le_refl 0
theorem d42_0 : decode cX5_holds 0 = .ok (.lload_n 0, 1) := by decide +kernel
theorem d42_1 : decode cX5_holds 1 = .ok (.iload_n 2, 1) := by decide +kernel
theorem d42_2 : decode cX5_holds 2 = .ok (.lushr, 1) := by decide +kernel
theorem d42_3 : decode cX5_holds 3 = .ok (.lconst 1, 1) := by decide +kernel
theorem d42_4 : decode cX5_holds 4 = .ok (.land, 1) := by decide +kernel
theorem d42_5 : decode cX5_holds 5 = .ok (.lconst 0, 1) := by decide +kernel
theorem d42_6 : decode cX5_holds 6 = .ok (.lcmp, 1) := by decide +kernel
theorem d42_7 : decode cX5_holds 7 = .ok (.ifCond .eq 7, 3) := by decide +kernel
theorem d42_10 : decode cX5_holds 10 = .ok (.iconst 1, 1) := by decide +kernel
theorem d42_11 : decode cX5_holds 11 = .ok (.goto 4, 3) := by decide +kernel
theorem d42_14 : decode cX5_holds 14 = .ok (.iconst 0, 1) := by decide +kernel
theorem d42_15 : decode cX5_holds 15 = .ok (.ireturn, 1) := by decide +kernel
theorem v42_0 {w : PW} {Q : PO → PW → Prop} {y0 : Int64} {x2 : Int} (hs : Sh w) (hx2 : bd x2) (h : ((lCmp ((lUsh y0 x2) &&& ((1 : Int64))) ((0 : Int64))) = 0 → Q (.inl (some (iv 0))) w) ∧ ((lCmp ((lUsh y0 x2) &&& ((1 : Int64))) ((0 : Int64))) ≠ 0 → Q (.inl (some (iv 1))) w)) : pX 42 0 [some (.long y0), none, some (iv x2)] [] w Q :=
  w_f b42 d42_0 rfl rfl rfl <| w_f b42 d42_1 rfl rfl rfl <| w_f b42 d42_2 rfl rfl rfl <| w_f b42 d42_3 rfl rfl rfl <| w_f b42 d42_4 rfl rfl rfl <| w_f b42 d42_5 rfl rfl rfl <| w_f b42 d42_6 rfl (pf_lcmp _ _) rfl <| w_ifeq b42 d42_7 rfl rfl (p42 _ _) (bd_toInt _) (fun c1 => w_f b42 d42_14 rfl rfl rfl <| w_rz b42 d42_15 r42 (by decide) (h.1 c1)) (fun c1 => w_f b42 d42_10 rfl rfl rfl <| w_j b42 d42_11 rfl (p42 _ _) <| w_rz b42 d42_15 r42 (by decide) (h.2 c1))
theorem e42 {w : PW} {Q : PO → PW → Prop} {y0 : Int64} {x2 : Int} (hs : Sh w) (hx2 : bd x2) (h : ((lCmp ((lUsh y0 x2) &&& ((1 : Int64))) ((0 : Int64))) = 0 → Q (.inl (some (iv 0))) w) ∧ ((lCmp ((lUsh y0 x2) &&& ((1 : Int64))) ((0 : Int64))) ≠ 0 → Q (.inl (some (iv 1))) w)) : pC 42 [.long y0, iv x2] w Q :=
  (pC_in (Nat.le_of_ble_eq_true rfl) rfl Q).mpr (v42_0 hs hx2 h)
theorem c42 {w : PW} {Q : PO → PW → Prop} {y0 : Int64} {x2 : Int} (hs : Sh w) (hx2 : bd x2) (hz : 0 ≤ x2 ∧ x2 < 64) (h : Q (.inl (some (iv (if tL y0 x2.toNat = true then 1 else 0)))) w) : pC 42 [.long y0, iv x2] w Q := by
  refine e42 hs hx2 ⟨fun q => ?_, fun q => ?_⟩
  · rw [if_neg (by rw [(tL_ask hz).mp (lCmp_eq.mp q)]; decide)] at h; exact h
  · rw [if_pos (by
      cases q2 : tL y0 x2.toNat with
      | true => rfl
      | false => exact absurd (lCmp_eq.mpr ((tL_ask hz).mpr q2)) q)] at h
    exact h
/-! 43: PinBarrel$Box.isPinned(III)Z -/
theorem b43 : mB 43 = cX0_isPinned := rfl
theorem r43 : mR 43 = (some .boolean) := rfl
theorem p43 (a b : Nat) : phi 43 a ≤ phi 43 b := Nat.le_refl 0
theorem d43_0 : decode cX0_isPinned 0 = .ok (.aload_n 0, 1) := by decide +kernel
theorem d43_1 : decode cX0_isPinned 1 = .ok (.aload_n 0, 1) := by decide +kernel
theorem d43_2 : decode cX0_isPinned 2 = .ok (.iload_n 1, 1) := by decide +kernel
theorem d43_3 : decode cX0_isPinned 3 = .ok (.iload_n 3, 1) := by decide +kernel
theorem d43_4 : decode cX0_isPinned 4 = .ok (.invokevirtual 81, 3) := by decide +kernel
theorem d43_7 : decode cX0_isPinned 7 = .ok (.invokevirtual 85, 3) := by decide +kernel
theorem d43_10 : decode cX0_isPinned 10 = .ok (.iload_n 2, 1) := by decide +kernel
theorem d43_11 : decode cX0_isPinned 11 = .ok (.invokestatic 89, 3) := by decide +kernel
theorem d43_14 : decode cX0_isPinned 14 = .ok (.ireturn, 1) := by decide +kernel
theorem v43_0 {w : PW} {Q : PO → PW → Prop} {b : Nat} {x1 : Int} {x2 : Int} {x3 : Int} (hs : Sh w) (hb : bx b) (hx1 : bd x1) (hx2 : bd x2) (hx3 : bd x3) (h : (bd ((gI w b 1) * x3 + x1)) ∧ (0 ≤ x2 ∧ x2 < 64) ∧ Q (.inl (some (iv (if tL (lP w b ((gI w b 1) * x3 + x1)) (x2).toNat = true then 1 else 0)))) w) : pX 43 0 [some (.ref b), some (iv x1), some (iv x2), some (iv x3)] [] w Q :=
  w_f b43 d43_0 rfl rfl rfl <| w_f b43 d43_1 rfl rfl rfl <| w_f b43 d43_2 rfl rfl rfl <| w_f b43 d43_3 rfl rfl rfl <| w_cc b43 d43_4 rfl (pcl_v (n := 2) rfl rfl rfl (by decide +kernel) (sh_isOb hs (bx00 hb) (tb0 hb)) rfl rfl) rfl <| c28 hs hb hx1 hx3 <| w_cc b43 d43_7 rfl (pcl_v (n := 1) rfl rfl rfl (by decide +kernel) (sh_isOb hs (bx00 hb) (tb0 hb)) rfl rfl) rfl <| c29 hs hb h.1 <| w_f b43 d43_10 rfl rfl rfl <| w_cc b43 d43_11 rfl (pcl_s1 (n := 2) rfl rfl rfl (by decide +kernel) rfl rfl) rfl <| c42 hs hx2 h.2.1 <| w_rz b43 d43_14 r43 (zor _) h.2.2
theorem e43 {w : PW} {Q : PO → PW → Prop} {b : Nat} {x1 : Int} {x2 : Int} {x3 : Int} (hs : Sh w) (hb : bx b) (hx1 : bd x1) (hx2 : bd x2) (hx3 : bd x3) (h : (bd ((gI w b 1) * x3 + x1)) ∧ (0 ≤ x2 ∧ x2 < 64) ∧ Q (.inl (some (iv (if tL (lP w b ((gI w b 1) * x3 + x1)) (x2).toNat = true then 1 else 0)))) w) : pC 43 [.ref b, iv x1, iv x2, iv x3] w Q :=
  (pC_in (Nat.le_of_ble_eq_true rfl) rfl Q).mpr (v43_0 hs hb hx1 hx2 hx3 h)
theorem c43 {w : PW} {Q : PO → PW → Prop} {b : Nat} {x1 x2 x3 : Int} (hs : Sh w) (hb : bx b) (hx1 : bd x1) (hx2 : bd x2) (hx3 : bd x3) (h1 : bd ((gI w b 1) * x3 + x1)) (h2 : 0 ≤ x2 ∧ x2 < 64) (h : Q (.inl (some (iv (if tL (lP w b ((gI w b 1) * x3 + x1)) (x2).toNat = true then 1 else 0)))) w) : pC 43 [.ref b, iv x1, iv x2, iv x3] w Q := e43 hs hb hx1 hx2 hx3 ⟨h1, h2, h⟩
/-! 44: PinBarrel$Box.need(I)I -/
theorem b44 : mB 44 = cX0_need := rfl
theorem r44 : mR 44 = (some .int) := rfl
theorem p44 (a b : Nat) : phi 44 a ≤ phi 44 b := Nat.le_refl 0
theorem d44_0 : decode cX0_need 0 = .ok (.aload_n 0, 1) := by decide +kernel
theorem d44_1 : decode cX0_need 1 = .ok (.getfield 31, 3) := by decide +kernel
theorem d44_4 : decode cX0_need 4 = .ok (.iload_n 1, 1) := by decide +kernel
theorem d44_5 : decode cX0_need 5 = .ok (.iaload, 1) := by decide +kernel
theorem d44_6 : decode cX0_need 6 = .ok (.aload_n 0, 1) := by decide +kernel
theorem d44_7 : decode cX0_need 7 = .ok (.getfield 21, 3) := by decide +kernel
theorem d44_10 : decode cX0_need 10 = .ok (.imul, 1) := by decide +kernel
theorem d44_11 : decode cX0_need 11 = .ok (.ireturn, 1) := by decide +kernel
theorem v44_0 {w : PW} {Q : PO → PW → Prop} {b : Nat} {x1 : Int} (hs : Sh w) (hb : bx b) (hx1 : bd x1) (h : (0 ≤ x1 ∧ x1 < 12) ∧ Q (.inl (some (iv ((gI w (b + 2) x1.toNat) * (gI w b 3))))) w) : pX 44 0 [some (.ref b), some (iv x1)] [] w Q :=
  w_f b44 d44_0 rfl rfl rfl <| w_gr b44 d44_1 rfl rfl hs (bx00 hb) (tb0 hb) rfl (bxr hb 2 rfl) <| w_f b44 d44_4 rfl rfl rfl <| w_ial b44 d44_5 rfl hs (bxk hb 2 rfl) (tb2 hb) (bdix (n := 12) h.1 rfl) h.1 <| w_f b44 d44_6 rfl rfl rfl <| w_gi b44 d44_7 rfl rfl hs (bx00 hb) (tb0 hb) rfl <| w_f b44 d44_10 rfl (pf_imul (gI w (b + 2) x1.toNat) (gI w b 3)) rfl <| w_ri b44 d44_11 r44 h.2
theorem e44 {w : PW} {Q : PO → PW → Prop} {b : Nat} {x1 : Int} (hs : Sh w) (hb : bx b) (hx1 : bd x1) (h : (0 ≤ x1 ∧ x1 < 12) ∧ Q (.inl (some (iv ((gI w (b + 2) x1.toNat) * (gI w b 3))))) w) : pC 44 [.ref b, iv x1] w Q :=
  (pC_in (Nat.le_of_ble_eq_true rfl) rfl Q).mpr (v44_0 hs hb hx1 h)
theorem c44 {w : PW} {Q : PO → PW → Prop} {b : Nat} {x1 : Int} (hs : Sh w) (hb : bx b) (hx1 : bd x1) (h1 : 0 ≤ x1 ∧ x1 < 12) (h : Q (.inl (some (iv ((gI w (b + 2) (x1).toNat) * (gI w b 3))))) w) : pC 44 [.ref b, iv x1] w Q := e44 hs hb hx1 ⟨h1, h⟩
/-! 47: PinBarrel$Ring.wrapped(II)I -/
theorem b47 : mB 47 = cX5_wrapped := rfl
theorem r47 : mR 47 = (some .int) := rfl
theorem p47 (a b : Nat) : phi 47 a ≤ phi 47 b := Nat.le_refl 0
theorem d47_0 : decode cX5_wrapped 0 = .ok (.iload_n 0, 1) := by decide +kernel
theorem d47_1 : decode cX5_wrapped 1 = .ok (.iload_n 1, 1) := by decide +kernel
theorem d47_2 : decode cX5_wrapped 2 = .ok (.if_icmp .lt 9, 3) := by decide +kernel
theorem d47_5 : decode cX5_wrapped 5 = .ok (.iload_n 0, 1) := by decide +kernel
theorem d47_6 : decode cX5_wrapped 6 = .ok (.iload_n 1, 1) := by decide +kernel
theorem d47_7 : decode cX5_wrapped 7 = .ok (.isub, 1) := by decide +kernel
theorem d47_8 : decode cX5_wrapped 8 = .ok (.goto 4, 3) := by decide +kernel
theorem d47_11 : decode cX5_wrapped 11 = .ok (.iload_n 0, 1) := by decide +kernel
theorem d47_12 : decode cX5_wrapped 12 = .ok (.ireturn, 1) := by decide +kernel
theorem v47_0 {w : PW} {Q : PO → PW → Prop} {x0 : Int} {x1 : Int} (hs : Sh w) (hx0 : bd x0) (hx1 : bd x1) (h : (x0 < x1 → Q (.inl (some (iv x0))) w) ∧ (x1 ≤ x0 → Q (.inl (some (iv (x0 - x1)))) w)) : pX 47 0 [some (iv x0), some (iv x1)] [] w Q :=
  w_f b47 d47_0 rfl rfl rfl <| w_f b47 d47_1 rfl rfl rfl <| w_iclt b47 d47_2 rfl rfl (p47 _ _) hx0 hx1 (fun c1 => w_f b47 d47_11 rfl rfl rfl <| w_ri b47 d47_12 r47 (h.1 c1)) (fun c1 => w_f b47 d47_5 rfl rfl rfl <| w_f b47 d47_6 rfl rfl rfl <| w_f b47 d47_7 rfl (pf_isub x0 x1) rfl <| w_j b47 d47_8 rfl (p47 _ _) <| w_ri b47 d47_12 r47 (h.2 c1))
theorem e47 {w : PW} {Q : PO → PW → Prop} {x0 : Int} {x1 : Int} (hs : Sh w) (hx0 : bd x0) (hx1 : bd x1) (h : (x0 < x1 → Q (.inl (some (iv x0))) w) ∧ (x1 ≤ x0 → Q (.inl (some (iv (x0 - x1)))) w)) : pC 47 [iv x0, iv x1] w Q :=
  (pC_in (Nat.le_of_ble_eq_true rfl) rfl Q).mpr (v47_0 hs hx0 hx1 h)
theorem c47 {w : PW} {Q : PO → PW → Prop} {x0 x1 : Int} (hs : Sh w) (hx0 : bd x0) (hx1 : bd x1) (h : Q (.inl (some (iv (wrp x0 x1)))) w) : pC 47 [iv x0, iv x1] w Q := by
  refine e47 hs hx0 hx1 ⟨fun q => ?_, fun q => ?_⟩
  · unfold wrp at h; rw [if_pos q] at h; exact h
  · unfold wrp at h; rw [if_neg (by omega)] at h; exact h
/-! 52: PinBarrel$Play.rings()I -/
theorem b52 : mB 52 = cX3_rings := rfl
theorem r52 : mR 52 = (some .int) := rfl
theorem p52 (a b : Nat) : phi 52 a ≤ phi 52 b := Nat.le_refl 0
theorem d52_0 : decode cX3_rings 0 = .ok (.aload_n 0, 1) := by decide +kernel
theorem d52_1 : decode cX3_rings 1 = .ok (.getfield 21, 3) := by decide +kernel
theorem d52_4 : decode cX3_rings 4 = .ok (.aload_n 0, 1) := by decide +kernel
theorem d52_5 : decode cX3_rings 5 = .ok (.getfield 24, 3) := by decide +kernel
theorem d52_8 : decode cX3_rings 8 = .ok (.isub, 1) := by decide +kernel
theorem d52_9 : decode cX3_rings 9 = .ok (.ireturn, 1) := by decide +kernel
theorem v52_0 {w : PW} {Q : PO → PW → Prop} {b : Nat} (hs : Sh w) (hb : bx b) (h : Q (.inl (some (iv ((gI w (b + 8) 3) - (gI w (b + 8) 4))))) w) : pX 52 0 [some (.ref (b + 8))] [] w Q :=
  w_f b52 d52_0 rfl rfl rfl <| w_gi b52 d52_1 rfl rfl hs (bxk hb 8 rfl) (tb8 hb) rfl <| w_f b52 d52_4 rfl rfl rfl <| w_gi b52 d52_5 rfl rfl hs (bxk hb 8 rfl) (tb8 hb) rfl <| w_f b52 d52_8 rfl (pf_isub (gI w (b + 8) 3) (gI w (b + 8) 4)) rfl <| w_ri b52 d52_9 r52 h
theorem e52 {w : PW} {Q : PO → PW → Prop} {b : Nat} (hs : Sh w) (hb : bx b) (h : Q (.inl (some (iv ((gI w (b + 8) 3) - (gI w (b + 8) 4))))) w) : pC 52 [.ref (b + 8)] w Q :=
  (pC_in (Nat.le_of_ble_eq_true rfl) rfl Q).mpr (v52_0 hs hb h)
theorem c52 {w : PW} {Q : PO → PW → Prop} {b : Nat} (hs : Sh w) (hb : bx b) (h : Q (.inl (some (iv ((gI w (b + 8) 3) - (gI w (b + 8) 4))))) w) : pC 52 [.ref (b + 8)] w Q := e52 hs hb h
/-! 60: PinBarrel$Ring.all(I)J -/
theorem b60 : mB 60 = cX5_all := rfl
theorem r60 : mR 60 = (some .long) := rfl
theorem p60 (a b : Nat) : phi 60 a ≤ phi 60 b := Nat.le_refl 0
theorem d60_0 : decode cX5_all 0 = .ok (.iload_n 0, 1) := by decide +kernel
theorem d60_1 : decode cX5_all 1 = .ok (.bipush 64, 2) := by decide +kernel
theorem d60_3 : decode cX5_all 3 = .ok (.if_icmp .lt 9, 3) := by decide +kernel
theorem d60_6 : decode cX5_all 6 = .ok (.ldc2_w 9, 3) := by decide +kernel
theorem d60_9 : decode cX5_all 9 = .ok (.goto 8, 3) := by decide +kernel
theorem d60_12 : decode cX5_all 12 = .ok (.lconst 1, 1) := by decide +kernel
theorem d60_13 : decode cX5_all 13 = .ok (.iload_n 0, 1) := by decide +kernel
theorem d60_14 : decode cX5_all 14 = .ok (.lshl, 1) := by decide +kernel
theorem d60_15 : decode cX5_all 15 = .ok (.lconst 1, 1) := by decide +kernel
theorem d60_16 : decode cX5_all 16 = .ok (.lsub, 1) := by decide +kernel
theorem d60_17 : decode cX5_all 17 = .ok (.lreturn, 1) := by decide +kernel
theorem v60_0 {w : PW} {Q : PO → PW → Prop} {x0 : Int} (hs : Sh w) (hx0 : bd x0) (h : (x0 < 64 → Q (.inl (some (.long ((lShl ((1 : Int64)) x0) - ((1 : Int64)))))) w) ∧ (64 ≤ x0 → Q (.inl (some (.long ((-1 : Int64))))) w)) : pX 60 0 [some (iv x0)] [] w Q :=
  w_f b60 d60_0 rfl rfl rfl <| w_f b60 d60_1 rfl rfl rfl <| w_iclt b60 d60_3 rfl rfl (p60 _ _) hx0 ⟨by decide, by decide⟩ (fun c1 => w_f b60 d60_12 rfl rfl rfl <| w_f b60 d60_13 rfl rfl rfl <| w_f b60 d60_14 rfl rfl rfl <| w_f b60 d60_15 rfl rfl rfl <| w_f b60 d60_16 rfl rfl rfl <| w_rl b60 d60_17 r60 (h.1 c1)) (fun c1 => w_ldcL b60 d60_6 rfl rfl <| w_j b60 d60_9 rfl (p60 _ _) <| w_rl b60 d60_17 r60 (h.2 c1))
theorem e60 {w : PW} {Q : PO → PW → Prop} {x0 : Int} (hs : Sh w) (hx0 : bd x0) (h : (x0 < 64 → Q (.inl (some (.long ((lShl ((1 : Int64)) x0) - ((1 : Int64)))))) w) ∧ (64 ≤ x0 → Q (.inl (some (.long ((-1 : Int64))))) w)) : pC 60 [iv x0] w Q :=
  (pC_in (Nat.le_of_ble_eq_true rfl) rfl Q).mpr (v60_0 hs hx0 h)
theorem c60 {w : PW} {Q : PO → PW → Prop} {x0 : Int} (hs : Sh w) (hx0 : bd x0) (h : Q (.inl (some (.long (lAll x0)))) w) : pC 60 [iv x0] w Q := by
  refine e60 hs hx0 ⟨fun q => ?_, fun q => ?_⟩
  · unfold lAll at h; rw [if_pos q] at h; exact h
  · unfold lAll at h; rw [if_neg (by omega)] at h; exact h
/-! 61: PinBarrel$Ring.moved(JII)J -/
theorem b61 : mB 61 = cX5_moved := rfl
theorem r61 : mR 61 = (some .long) := rfl
theorem p61 (a b : Nat) : phi 61 a ≤ phi 61 b := Nat.le_refl 0
theorem d61_0 : decode cX5_moved 0 = .ok (.iload_n 2, 1) := by decide +kernel
theorem d61_1 : decode cX5_moved 1 = .ok (.ifCond .le 8, 3) := by decide +kernel
theorem d61_4 : decode cX5_moved 4 = .ok (.iload_n 2, 1) := by decide +kernel
theorem d61_5 : decode cX5_moved 5 = .ok (.iload_n 3, 1) := by decide +kernel
theorem d61_6 : decode cX5_moved 6 = .ok (.if_icmp .lt 5, 3) := by decide +kernel
theorem d61_9 : decode cX5_moved 9 = .ok (.lload_n 0, 1) := by decide +kernel
theorem d61_10 : decode cX5_moved 10 = .ok (.lreturn, 1) := by decide +kernel
theorem d61_11 : decode cX5_moved 11 = .ok (.lload_n 0, 1) := by decide +kernel
theorem d61_12 : decode cX5_moved 12 = .ok (.iload_n 2, 1) := by decide +kernel
theorem d61_13 : decode cX5_moved 13 = .ok (.lshl, 1) := by decide +kernel
theorem d61_14 : decode cX5_moved 14 = .ok (.lload_n 0, 1) := by decide +kernel
theorem d61_15 : decode cX5_moved 15 = .ok (.iload_n 3, 1) := by decide +kernel
theorem d61_16 : decode cX5_moved 16 = .ok (.iload_n 2, 1) := by decide +kernel
theorem d61_17 : decode cX5_moved 17 = .ok (.isub, 1) := by decide +kernel
theorem d61_18 : decode cX5_moved 18 = .ok (.lushr, 1) := by decide +kernel
theorem d61_19 : decode cX5_moved 19 = .ok (.lor, 1) := by decide +kernel
theorem d61_20 : decode cX5_moved 20 = .ok (.iload_n 3, 1) := by decide +kernel
theorem d61_21 : decode cX5_moved 21 = .ok (.invokestatic 11, 3) := by decide +kernel
theorem d61_24 : decode cX5_moved 24 = .ok (.land, 1) := by decide +kernel
theorem d61_25 : decode cX5_moved 25 = .ok (.lreturn, 1) := by decide +kernel
theorem v61_0 {w : PW} {Q : PO → PW → Prop} {y0 : Int64} {x2 : Int} {x3 : Int} (hs : Sh w) (hx2 : bd x2) (hx3 : bd x3) (h : (x2 ≤ 0 → Q (.inl (some (.long y0))) w) ∧ (0 < x2 → (x2 < x3 → Q (.inl (some (.long (((lShl y0 x2) ||| (lUsh y0 (x3 - x2))) &&& (lAll x3))))) w) ∧ (x3 ≤ x2 → Q (.inl (some (.long y0))) w))) : pX 61 0 [some (.long y0), none, some (iv x2), some (iv x3)] [] w Q :=
  w_f b61 d61_0 rfl rfl rfl <| w_ifle b61 d61_1 rfl rfl (p61 _ _) hx2 (fun c1 => w_f b61 d61_9 rfl rfl rfl <| w_rl b61 d61_10 r61 (h.1 c1)) (fun c1 => w_f b61 d61_4 rfl rfl rfl <| w_f b61 d61_5 rfl rfl rfl <| w_iclt b61 d61_6 rfl rfl (p61 _ _) hx2 hx3 (fun c2 => w_f b61 d61_11 rfl rfl rfl <| w_f b61 d61_12 rfl rfl rfl <| w_f b61 d61_13 rfl rfl rfl <| w_f b61 d61_14 rfl rfl rfl <| w_f b61 d61_15 rfl rfl rfl <| w_f b61 d61_16 rfl rfl rfl <| w_f b61 d61_17 rfl (pf_isub x3 x2) rfl <| w_f b61 d61_18 rfl rfl rfl <| w_f b61 d61_19 rfl rfl rfl <| w_f b61 d61_20 rfl rfl rfl <| w_cc b61 d61_21 rfl (pcl_s1 (n := 1) rfl rfl rfl (by decide +kernel) rfl rfl) rfl <| c60 hs hx3 <| w_f b61 d61_24 rfl rfl rfl <| w_rl b61 d61_25 r61 ((h.2 c1).1 c2)) (fun c2 => w_f b61 d61_9 rfl rfl rfl <| w_rl b61 d61_10 r61 ((h.2 c1).2 c2)))
theorem e61 {w : PW} {Q : PO → PW → Prop} {y0 : Int64} {x2 : Int} {x3 : Int} (hs : Sh w) (hx2 : bd x2) (hx3 : bd x3) (h : (x2 ≤ 0 → Q (.inl (some (.long y0))) w) ∧ (0 < x2 → (x2 < x3 → Q (.inl (some (.long (((lShl y0 x2) ||| (lUsh y0 (x3 - x2))) &&& (lAll x3))))) w) ∧ (x3 ≤ x2 → Q (.inl (some (.long y0))) w))) : pC 61 [.long y0, iv x2, iv x3] w Q :=
  (pC_in (Nat.le_of_ble_eq_true rfl) rfl Q).mpr (v61_0 hs hx2 hx3 h)
theorem c61 {w : PW} {Q : PO → PW → Prop} {y0 : Int64} {x2 x3 : Int} (hs : Sh w) (hx2 : bd x2) (hx3 : bd x3) (hd : bd (x3 - x2)) (h : Q (.inl (some (.long (lMov y0 x2 x3)))) w) : pC 61 [.long y0, iv x2, iv x3] w Q := by
  refine e61 hs hx2 hx3 ⟨fun q => ?_, fun q => ⟨fun q2 => ?_, fun q2 => ?_⟩⟩
  · unfold lMov at h; rw [if_pos q] at h; exact h
  · unfold lMov at h; rw [if_neg (by omega), if_pos q2] at h; exact h
  · unfold lMov at h; rw [if_neg (by omega), if_neg (by omega)] at h; exact h
/-! 67: PinBarrel.checkTooth(I)V -/
theorem b67 : mB 67 = cX8_checkTooth := rfl
theorem r67 : mR 67 = none := rfl
theorem d67_0 : decode cX8_checkTooth 0 = .ok (.iload_n 1, 1) := by decide +kernel
theorem d67_1 : decode cX8_checkTooth 1 = .ok (.ifCond .lt 14, 3) := by decide +kernel
theorem d67_4 : decode cX8_checkTooth 4 = .ok (.iload_n 1, 1) := by decide +kernel
theorem d67_5 : decode cX8_checkTooth 5 = .ok (.aload_n 0, 1) := by decide +kernel
theorem d67_6 : decode cX8_checkTooth 6 = .ok (.getfield 12, 3) := by decide +kernel
theorem d67_9 : decode cX8_checkTooth 9 = .ok (.getfield 108, 3) := by decide +kernel
theorem d67_12 : decode cX8_checkTooth 12 = .ok (.if_icmp .lt 14, 3) := by decide +kernel
theorem d67_15 : decode cX8_checkTooth 15 = .ok (.new 379, 3) := by decide +kernel
theorem d67_26 : decode cX8_checkTooth 26 = .ok (.return_, 1) := by decide +kernel
theorem v67_0 {w : PW} {Q : PO → PW → Prop} {x1 : Int} (hs : Sh w) (hx1 : bd x1) (h : (x1 < 0 → Q (.inr 2) w) ∧ (0 ≤ x1 → (x1 < (gI w 1 4) → Q (.inl none) w) ∧ ((gI w 1 4) ≤ x1 → Q (.inr 2) w))) : pX 67 0 [some (.ref 0), some (iv x1)] [] w Q :=
  w_f b67 d67_0 rfl rfl rfl <| w_iflt b67 d67_1 rfl rfl (by decide +kernel) hx1 (fun c1 => w_th b67 d67_15 hs.1 rfl rfl rfl (h.1 c1)) (fun c1 => w_f b67 d67_4 rfl rfl rfl <| w_f b67 d67_5 rfl rfl rfl <| w_gr b67 d67_6 rfl rfl hs (tlt 0 rfl) tbC_0 rfl (bxr0 (bxc 1 rfl)) <| w_gi b67 d67_9 rfl rfl hs (bx00 (bxc 1 rfl)) (tb0 (bxc 1 rfl)) rfl <| w_iclt b67 d67_12 rfl rfl (by decide +kernel) hx1 (bd_gI _ _ _) (fun c2 => w_rv b67 d67_26 r67 ((h.2 c1).1 c2)) (fun c2 => w_th b67 d67_15 hs.1 rfl rfl rfl ((h.2 c1).2 c2)))
theorem e67 {w : PW} {Q : PO → PW → Prop} {x1 : Int} (hs : Sh w) (hx1 : bd x1) (h : (x1 < 0 → Q (.inr 2) w) ∧ (0 ≤ x1 → (x1 < (gI w 1 4) → Q (.inl none) w) ∧ ((gI w 1 4) ≤ x1 → Q (.inr 2) w))) : pC 67 [.ref 0, iv x1] w Q :=
  (pC_in (Nat.le_of_ble_eq_true rfl) rfl Q).mpr (v67_0 hs hx1 h)
theorem c67 {w : PW} {Q : PO → PW → Prop} {x1 : Int} (hs : Sh w) (hx1 : bd x1) (h1 : 0 ≤ x1 ∧ x1 < gI w 1 4 → Q (.inl none) w) (h2 : ¬ (0 ≤ x1 ∧ x1 < gI w 1 4) → Q (.inr 2) w) : pC 67 [.ref 0, iv x1] w Q :=
  e67 hs hx1 ⟨fun q => h2 (by omega), fun q => ⟨fun q2 => h1 ⟨q, q2⟩, fun q2 => h2 (fun q3 => by have q4 : gI w 1 4 ≤ x1 := q2; omega)⟩⟩
/-! 71: PinBarrel.checkNote(I)V -/
theorem b71 : mB 71 = cX8_checkNote := rfl
theorem r71 : mR 71 = none := rfl
theorem d71_0 : decode cX8_checkNote 0 = .ok (.iload_n 1, 1) := by decide +kernel
theorem d71_1 : decode cX8_checkNote 1 = .ok (.ifCond .lt 17, 3) := by decide +kernel
theorem d71_4 : decode cX8_checkNote 4 = .ok (.iload_n 1, 1) := by decide +kernel
theorem d71_5 : decode cX8_checkNote 5 = .ok (.aload_n 0, 1) := by decide +kernel
theorem d71_6 : decode cX8_checkNote 6 = .ok (.getfield 12, 3) := by decide +kernel
theorem d71_9 : decode cX8_checkNote 9 = .ok (.getfield 87, 3) := by decide +kernel
theorem d71_12 : decode cX8_checkNote 12 = .ok (.getfield 91, 3) := by decide +kernel
theorem d71_15 : decode cX8_checkNote 15 = .ok (.if_icmp .lt 14, 3) := by decide +kernel
theorem d71_18 : decode cX8_checkNote 18 = .ok (.new 379, 3) := by decide +kernel
theorem d71_29 : decode cX8_checkNote 29 = .ok (.return_, 1) := by decide +kernel
theorem v71_0 {w : PW} {Q : PO → PW → Prop} {x1 : Int} (hs : Sh w) (hx1 : bd x1) (h : (x1 < 0 → Q (.inr 2) w) ∧ (0 ≤ x1 → (x1 < (gI w (1 + 4) 0) → Q (.inl none) w) ∧ ((gI w (1 + 4) 0) ≤ x1 → Q (.inr 2) w))) : pX 71 0 [some (.ref 0), some (iv x1)] [] w Q :=
  w_f b71 d71_0 rfl rfl rfl <| w_iflt b71 d71_1 rfl rfl (by decide +kernel) hx1 (fun c1 => w_th b71 d71_18 hs.1 rfl rfl rfl (h.1 c1)) (fun c1 => w_f b71 d71_4 rfl rfl rfl <| w_f b71 d71_5 rfl rfl rfl <| w_gr b71 d71_6 rfl rfl hs (tlt 0 rfl) tbC_0 rfl (bxr0 (bxc 1 rfl)) <| w_gr b71 d71_9 rfl rfl hs (bx00 (bxc 1 rfl)) (tb0 (bxc 1 rfl)) rfl (bxr (bxc 1 rfl) 4 rfl) <| w_gi b71 d71_12 rfl rfl hs (bxk (bxc 1 rfl) 4 rfl) (tb4 (bxc 1 rfl)) rfl <| w_iclt b71 d71_15 rfl rfl (by decide +kernel) hx1 (bd_gI _ _ _) (fun c2 => w_rv b71 d71_29 r71 ((h.2 c1).1 c2)) (fun c2 => w_th b71 d71_18 hs.1 rfl rfl rfl ((h.2 c1).2 c2)))
theorem e71 {w : PW} {Q : PO → PW → Prop} {x1 : Int} (hs : Sh w) (hx1 : bd x1) (h : (x1 < 0 → Q (.inr 2) w) ∧ (0 ≤ x1 → (x1 < (gI w (1 + 4) 0) → Q (.inl none) w) ∧ ((gI w (1 + 4) 0) ≤ x1 → Q (.inr 2) w))) : pC 71 [.ref 0, iv x1] w Q :=
  (pC_in (Nat.le_of_ble_eq_true rfl) rfl Q).mpr (v71_0 hs hx1 h)
theorem c71 {w : PW} {Q : PO → PW → Prop} {x1 : Int} (hs : Sh w) (hx1 : bd x1) (h1 : 0 ≤ x1 ∧ x1 < gI w 5 0 → Q (.inl none) w) (h2 : ¬ (0 ≤ x1 ∧ x1 < gI w 5 0) → Q (.inr 2) w) : pC 71 [.ref 0, iv x1] w Q :=
  e71 hs hx1 ⟨fun q => h2 (by omega), fun q => ⟨fun q2 => h1 ⟨q, q2⟩, fun q2 => h2 (fun q3 => by have q4 : gI w 5 0 ≤ x1 := q2; omega)⟩⟩
/-! 76: PinBarrel.checkRange(III)V -/
theorem b76 : mB 76 = cX8_checkRange := rfl
theorem r76 : mR 76 = none := rfl
theorem d76_0 : decode cX8_checkRange 0 = .ok (.iload_n 1, 1) := by decide +kernel
theorem d76_1 : decode cX8_checkRange 1 = .ok (.iload_n 2, 1) := by decide +kernel
theorem d76_2 : decode cX8_checkRange 2 = .ok (.if_icmp .lt 8, 3) := by decide +kernel
theorem d76_5 : decode cX8_checkRange 5 = .ok (.iload_n 1, 1) := by decide +kernel
theorem d76_6 : decode cX8_checkRange 6 = .ok (.iload_n 3, 1) := by decide +kernel
theorem d76_7 : decode cX8_checkRange 7 = .ok (.if_icmp .le 14, 3) := by decide +kernel
theorem d76_10 : decode cX8_checkRange 10 = .ok (.new 140, 3) := by decide +kernel
theorem d76_21 : decode cX8_checkRange 21 = .ok (.return_, 1) := by decide +kernel
theorem v76_0 {w : PW} {Q : PO → PW → Prop} {x1 : Int} {x2 : Int} {x3 : Int} (hs : Sh w) (hx1 : bd x1) (hx2 : bd x2) (hx3 : bd x3) (h : (x1 < x2 → Q (.inr 1) w) ∧ (x2 ≤ x1 → (x1 ≤ x3 → Q (.inl none) w) ∧ (x3 < x1 → Q (.inr 1) w))) : pX 76 0 [some (.ref 0), some (iv x1), some (iv x2), some (iv x3)] [] w Q :=
  w_f b76 d76_0 rfl rfl rfl <| w_f b76 d76_1 rfl rfl rfl <| w_iclt b76 d76_2 rfl rfl (by decide +kernel) hx1 hx2 (fun c1 => w_th b76 d76_10 hs.1 rfl rfl rfl (h.1 c1)) (fun c1 => w_f b76 d76_5 rfl rfl rfl <| w_f b76 d76_6 rfl rfl rfl <| w_icle b76 d76_7 rfl rfl (by decide +kernel) hx1 hx3 (fun c2 => w_rv b76 d76_21 r76 ((h.2 c1).1 c2)) (fun c2 => w_th b76 d76_10 hs.1 rfl rfl rfl ((h.2 c1).2 c2)))
theorem e76 {w : PW} {Q : PO → PW → Prop} {x1 : Int} {x2 : Int} {x3 : Int} (hs : Sh w) (hx1 : bd x1) (hx2 : bd x2) (hx3 : bd x3) (h : (x1 < x2 → Q (.inr 1) w) ∧ (x2 ≤ x1 → (x1 ≤ x3 → Q (.inl none) w) ∧ (x3 < x1 → Q (.inr 1) w))) : pC 76 [.ref 0, iv x1, iv x2, iv x3] w Q :=
  (pC_in (Nat.le_of_ble_eq_true rfl) rfl Q).mpr (v76_0 hs hx1 hx2 hx3 h)
theorem c76 {w : PW} {Q : PO → PW → Prop} {x1 x2 x3 : Int} (hs : Sh w) (hx1 : bd x1) (hx2 : bd x2) (hx3 : bd x3) (h1 : x2 ≤ x1 ∧ x1 ≤ x3 → Q (.inl none) w) (h2 : ¬ (x2 ≤ x1 ∧ x1 ≤ x3) → Q (.inr 1) w) : pC 76 [.ref 0, iv x1, iv x2, iv x3] w Q :=
  e76 hs hx1 hx2 hx3 ⟨fun q => h2 (by omega), fun q => ⟨fun q2 => h1 ⟨q, q2⟩, fun q2 => h2 (by omega)⟩⟩
/-! 77: PinBarrel.checkTune(I)V -/
theorem b77 : mB 77 = cX8_checkTune := rfl
theorem r77 : mR 77 = none := rfl
theorem d77_0 : decode cX8_checkTune 0 = .ok (.aload_n 0, 1) := by decide +kernel
theorem d77_1 : decode cX8_checkTune 1 = .ok (.iload_n 1, 1) := by decide +kernel
theorem d77_2 : decode cX8_checkTune 2 = .ok (.iconst 0, 1) := by decide +kernel
theorem d77_3 : decode cX8_checkTune 3 = .ok (.aload_n 0, 1) := by decide +kernel
theorem d77_4 : decode cX8_checkTune 4 = .ok (.getfield 12, 3) := by decide +kernel
theorem d77_7 : decode cX8_checkTune 7 = .ok (.getfield 99, 3) := by decide +kernel
theorem d77_10 : decode cX8_checkTune 10 = .ok (.iconst 1, 1) := by decide +kernel
theorem d77_11 : decode cX8_checkTune 11 = .ok (.isub, 1) := by decide +kernel
theorem d77_12 : decode cX8_checkTune 12 = .ok (.invokevirtual 223, 3) := by decide +kernel
theorem d77_15 : decode cX8_checkTune 15 = .ok (.return_, 1) := by decide +kernel
theorem v77_0 {w : PW} {Q : PO → PW → Prop} {x1 : Int} (hs : Sh w) (hx1 : bd x1) (h : (bd ((gI w 1 1) - 1)) ∧ ((0 ≤ x1 ∧ x1 ≤ ((gI w 1 1) - 1)) → Q (.inl none) w) ∧ (¬ (0 ≤ x1 ∧ x1 ≤ ((gI w 1 1) - 1)) → Q (.inr 1) w)) : pX 77 0 [some (.ref 0), some (iv x1)] [] w Q :=
  w_f b77 d77_0 rfl rfl rfl <| w_f b77 d77_1 rfl rfl rfl <| w_f b77 d77_2 rfl rfl rfl <| w_f b77 d77_3 rfl rfl rfl <| w_gr b77 d77_4 rfl rfl hs (tlt 0 rfl) tbC_0 rfl (bxr0 (bxc 1 rfl)) <| w_gi b77 d77_7 rfl rfl hs (bx00 (bxc 1 rfl)) (tb0 (bxc 1 rfl)) rfl <| w_f b77 d77_10 rfl rfl rfl <| w_f b77 d77_11 rfl (pf_isub (gI w 1 1) 1) rfl <| w_cc b77 d77_12 rfl (pcl_v (n := 3) rfl rfl rfl (by decide +kernel) (sh_isOb hs (tlt 0 rfl) tbC_0) rfl rfl) rfl <| c76 hs hx1 ⟨by decide, by decide⟩ h.1 (fun c1 => w_rv b77 d77_15 r77 (h.2.1 c1)) (fun c1 => h.2.2 c1)
theorem e77 {w : PW} {Q : PO → PW → Prop} {x1 : Int} (hs : Sh w) (hx1 : bd x1) (h : (bd ((gI w 1 1) - 1)) ∧ ((0 ≤ x1 ∧ x1 ≤ ((gI w 1 1) - 1)) → Q (.inl none) w) ∧ (¬ (0 ≤ x1 ∧ x1 ≤ ((gI w 1 1) - 1)) → Q (.inr 1) w)) : pC 77 [.ref 0, iv x1] w Q :=
  (pC_in (Nat.le_of_ble_eq_true rfl) rfl Q).mpr (v77_0 hs hx1 h)
theorem c77 {w : PW} {Q : PO → PW → Prop} {x1 : Int} (hs : Sh w) (hx1 : bd x1) (hp : bd ((gI w 1 1) - 1)) (h1 : 0 ≤ x1 ∧ x1 < gI w 1 1 → Q (.inl none) w) (h2 : ¬ (0 ≤ x1 ∧ x1 < gI w 1 1) → Q (.inr 1) w) : pC 77 [.ref 0, iv x1] w Q :=
  e77 hs hx1 ⟨hp, fun q => h1 (by omega), fun q => h2 (by omega)⟩
/-! 78: PinBarrel.checkStep(I)V -/
theorem b78 : mB 78 = cX8_checkStep := rfl
theorem r78 : mR 78 = none := rfl
theorem d78_0 : decode cX8_checkStep 0 = .ok (.aload_n 0, 1) := by decide +kernel
theorem d78_1 : decode cX8_checkStep 1 = .ok (.iload_n 1, 1) := by decide +kernel
theorem d78_2 : decode cX8_checkStep 2 = .ok (.iconst 0, 1) := by decide +kernel
theorem d78_3 : decode cX8_checkStep 3 = .ok (.aload_n 0, 1) := by decide +kernel
theorem d78_4 : decode cX8_checkStep 4 = .ok (.getfield 12, 3) := by decide +kernel
theorem d78_7 : decode cX8_checkStep 7 = .ok (.getfield 96, 3) := by decide +kernel
theorem d78_10 : decode cX8_checkStep 10 = .ok (.iconst 1, 1) := by decide +kernel
theorem d78_11 : decode cX8_checkStep 11 = .ok (.isub, 1) := by decide +kernel
theorem d78_12 : decode cX8_checkStep 12 = .ok (.invokevirtual 223, 3) := by decide +kernel
theorem d78_15 : decode cX8_checkStep 15 = .ok (.return_, 1) := by decide +kernel
theorem v78_0 {w : PW} {Q : PO → PW → Prop} {x1 : Int} (hs : Sh w) (hx1 : bd x1) (h : (bd ((gI w 1 0) - 1)) ∧ ((0 ≤ x1 ∧ x1 ≤ ((gI w 1 0) - 1)) → Q (.inl none) w) ∧ (¬ (0 ≤ x1 ∧ x1 ≤ ((gI w 1 0) - 1)) → Q (.inr 1) w)) : pX 78 0 [some (.ref 0), some (iv x1)] [] w Q :=
  w_f b78 d78_0 rfl rfl rfl <| w_f b78 d78_1 rfl rfl rfl <| w_f b78 d78_2 rfl rfl rfl <| w_f b78 d78_3 rfl rfl rfl <| w_gr b78 d78_4 rfl rfl hs (tlt 0 rfl) tbC_0 rfl (bxr0 (bxc 1 rfl)) <| w_gi b78 d78_7 rfl rfl hs (bx00 (bxc 1 rfl)) (tb0 (bxc 1 rfl)) rfl <| w_f b78 d78_10 rfl rfl rfl <| w_f b78 d78_11 rfl (pf_isub (gI w 1 0) 1) rfl <| w_cc b78 d78_12 rfl (pcl_v (n := 3) rfl rfl rfl (by decide +kernel) (sh_isOb hs (tlt 0 rfl) tbC_0) rfl rfl) rfl <| c76 hs hx1 ⟨by decide, by decide⟩ h.1 (fun c1 => w_rv b78 d78_15 r78 (h.2.1 c1)) (fun c1 => h.2.2 c1)
theorem e78 {w : PW} {Q : PO → PW → Prop} {x1 : Int} (hs : Sh w) (hx1 : bd x1) (h : (bd ((gI w 1 0) - 1)) ∧ ((0 ≤ x1 ∧ x1 ≤ ((gI w 1 0) - 1)) → Q (.inl none) w) ∧ (¬ (0 ≤ x1 ∧ x1 ≤ ((gI w 1 0) - 1)) → Q (.inr 1) w)) : pC 78 [.ref 0, iv x1] w Q :=
  (pC_in (Nat.le_of_ble_eq_true rfl) rfl Q).mpr (v78_0 hs hx1 h)
theorem c78 {w : PW} {Q : PO → PW → Prop} {x1 : Int} (hs : Sh w) (hx1 : bd x1) (hp : bd ((gI w 1 0) - 1)) (h1 : 0 ≤ x1 ∧ x1 < gI w 1 0 → Q (.inl none) w) (h2 : ¬ (0 ≤ x1 ∧ x1 < gI w 1 0) → Q (.inr 1) w) : pC 78 [.ref 0, iv x1] w Q :=
  e78 hs hx1 ⟨hp, fun q => h1 (by omega), fun q => h2 (by omega)⟩
/-! 99: PinBarrel$Ring.near(III)J -/
theorem b99 : mB 99 = cX5_near := rfl
theorem r99 : mR 99 = (some .long) := rfl
theorem p99 (a b : Nat) : phi 99 a ≤ phi 99 b := Nat.le_refl 0
theorem d99_0 : decode cX5_near 0 = .ok (.iload_n 1, 1) := by decide +kernel
theorem d99_1 : decode cX5_near 1 = .ok (.ifCond .gt 5, 3) := by decide +kernel
theorem d99_4 : decode cX5_near 4 = .ok (.lconst 0, 1) := by decide +kernel
theorem d99_5 : decode cX5_near 5 = .ok (.lreturn, 1) := by decide +kernel
theorem d99_6 : decode cX5_near 6 = .ok (.iload_n 1, 1) := by decide +kernel
theorem d99_7 : decode cX5_near 7 = .ok (.iload_n 2, 1) := by decide +kernel
theorem d99_8 : decode cX5_near 8 = .ok (.if_icmp .lt 8, 3) := by decide +kernel
theorem d99_11 : decode cX5_near 11 = .ok (.iload_n 2, 1) := by decide +kernel
theorem d99_12 : decode cX5_near 12 = .ok (.invokestatic 11, 3) := by decide +kernel
theorem d99_15 : decode cX5_near 15 = .ok (.lreturn, 1) := by decide +kernel
theorem d99_16 : decode cX5_near 16 = .ok (.iload_n 1, 1) := by decide +kernel
theorem d99_17 : decode cX5_near 17 = .ok (.invokestatic 11, 3) := by decide +kernel
theorem d99_20 : decode cX5_near 20 = .ok (.iload_n 0, 1) := by decide +kernel
theorem d99_21 : decode cX5_near 21 = .ok (.iload_n 2, 1) := by decide +kernel
theorem d99_22 : decode cX5_near 22 = .ok (.invokestatic 21, 3) := by decide +kernel
theorem d99_25 : decode cX5_near 25 = .ok (.lstore_n 3, 1) := by decide +kernel
theorem d99_26 : decode cX5_near 26 = .ok (.lload_n 3, 1) := by decide +kernel
theorem d99_27 : decode cX5_near 27 = .ok (.lload_n 3, 1) := by decide +kernel
theorem d99_28 : decode cX5_near 28 = .ok (.iload_n 2, 1) := by decide +kernel
theorem d99_29 : decode cX5_near 29 = .ok (.iload_n 1, 1) := by decide +kernel
theorem d99_30 : decode cX5_near 30 = .ok (.isub, 1) := by decide +kernel
theorem d99_31 : decode cX5_near 31 = .ok (.iconst 1, 1) := by decide +kernel
theorem d99_32 : decode cX5_near 32 = .ok (.iadd, 1) := by decide +kernel
theorem d99_33 : decode cX5_near 33 = .ok (.iload_n 2, 1) := by decide +kernel
theorem d99_34 : decode cX5_near 34 = .ok (.invokestatic 21, 3) := by decide +kernel
theorem d99_37 : decode cX5_near 37 = .ok (.lor, 1) := by decide +kernel
theorem d99_38 : decode cX5_near 38 = .ok (.lreturn, 1) := by decide +kernel
theorem v99_0 {w : PW} {Q : PO → PW → Prop} {x0 : Int} {x1 : Int} {x2 : Int} (hs : Sh w) (hx0 : bd x0) (hx1 : bd x1) (hx2 : bd x2) (h : (0 < x1 → (x1 < x2 → (bd (x2 - x0)) ∧ (bd ((x2 - x1) + 1)) ∧ (bd (x2 - ((x2 - x1) + 1))) ∧ Q (.inl (some (.long ((lMov (lAll x1) x0 x2) ||| (lMov (lMov (lAll x1) x0 x2) ((x2 - x1) + 1) x2))))) w) ∧ (x2 ≤ x1 → Q (.inl (some (.long (lAll x2)))) w)) ∧ (x1 ≤ 0 → Q (.inl (some (.long ((0 : Int64))))) w)) : pX 99 0 [some (iv x0), some (iv x1), some (iv x2), none, none] [] w Q :=
  w_f b99 d99_0 rfl rfl rfl <| w_ifgt b99 d99_1 rfl rfl (p99 _ _) hx1 (fun c1 => w_f b99 d99_6 rfl rfl rfl <| w_f b99 d99_7 rfl rfl rfl <| w_iclt b99 d99_8 rfl rfl (p99 _ _) hx1 hx2 (fun c2 => w_f b99 d99_16 rfl rfl rfl <| w_cc b99 d99_17 rfl (pcl_s1 (n := 1) rfl rfl rfl (by decide +kernel) rfl rfl) rfl <| c60 hs hx1 <| w_f b99 d99_20 rfl rfl rfl <| w_f b99 d99_21 rfl rfl rfl <| w_cc b99 d99_22 rfl (pcl_s1 (n := 3) rfl rfl rfl (by decide +kernel) rfl rfl) rfl <| c61 hs hx0 hx2 ((h.1 c1).1 c2).1 <| w_f b99 d99_25 rfl rfl rfl <| w_f b99 d99_26 rfl rfl rfl <| w_f b99 d99_27 rfl rfl rfl <| w_f b99 d99_28 rfl rfl rfl <| w_f b99 d99_29 rfl rfl rfl <| w_f b99 d99_30 rfl (pf_isub x2 x1) rfl <| w_f b99 d99_31 rfl rfl rfl <| w_f b99 d99_32 rfl (pf_iadd (x2 - x1) 1) rfl <| w_f b99 d99_33 rfl rfl rfl <| w_cc b99 d99_34 rfl (pcl_s1 (n := 3) rfl rfl rfl (by decide +kernel) rfl rfl) rfl <| c61 hs ((h.1 c1).1 c2).2.1 hx2 ((h.1 c1).1 c2).2.2.1 <| w_f b99 d99_37 rfl rfl rfl <| w_rl b99 d99_38 r99 ((h.1 c1).1 c2).2.2.2) (fun c2 => w_f b99 d99_11 rfl rfl rfl <| w_cc b99 d99_12 rfl (pcl_s1 (n := 1) rfl rfl rfl (by decide +kernel) rfl rfl) rfl <| c60 hs hx2 <| w_rl b99 d99_15 r99 ((h.1 c1).2 c2))) (fun c1 => w_f b99 d99_4 rfl rfl rfl <| w_rl b99 d99_5 r99 (h.2 c1))
theorem e99 {w : PW} {Q : PO → PW → Prop} {x0 : Int} {x1 : Int} {x2 : Int} (hs : Sh w) (hx0 : bd x0) (hx1 : bd x1) (hx2 : bd x2) (h : (0 < x1 → (x1 < x2 → (bd (x2 - x0)) ∧ (bd ((x2 - x1) + 1)) ∧ (bd (x2 - ((x2 - x1) + 1))) ∧ Q (.inl (some (.long ((lMov (lAll x1) x0 x2) ||| (lMov (lMov (lAll x1) x0 x2) ((x2 - x1) + 1) x2))))) w) ∧ (x2 ≤ x1 → Q (.inl (some (.long (lAll x2)))) w)) ∧ (x1 ≤ 0 → Q (.inl (some (.long ((0 : Int64))))) w)) : pC 99 [iv x0, iv x1, iv x2] w Q :=
  (pC_in (Nat.le_of_ble_eq_true rfl) rfl Q).mpr (v99_0 hs hx0 hx1 hx2 h)
theorem c99 {w : PW} {Q : PO → PW → Prop} {x0 x1 x2 : Int} (hs : Sh w) (hx0 : bd x0) (hx1 : bd x1) (hx2 : bd x2) (h1 : bd (x2 - x1 + 1)) (h2 : bd (x2 - x0)) (h3 : bd (x2 - (x2 - x1 + 1))) (h : Q (.inl (some (.long (lNear x0 x1 x2)))) w) : pC 99 [iv x0, iv x1, iv x2] w Q := by
  refine e99 hs hx0 hx1 hx2 ⟨fun q => ⟨fun q2 => ⟨h2, h1, h3, ?_⟩, fun q2 => ?_⟩, fun q => ?_⟩
  · unfold lNear at h; rw [if_pos q, if_pos q2] at h; exact h
  · unfold lNear at h; rw [if_pos q, if_neg (by omega)] at h; exact h
  · unfold lNear at h; rw [if_neg (by omega)] at h; exact h
/-! 102: PinBarrel$Box.tuneOf(I)I -/
theorem b102 : mB 102 = cX0_tuneOf := rfl
theorem r102 : mR 102 = (some .int) := rfl
theorem p102 (a b : Nat) : phi 102 a ≤ phi 102 b := Nat.le_refl 0
theorem d102_0 : decode cX0_tuneOf 0 = .ok (.aload_n 0, 1) := by decide +kernel
theorem d102_1 : decode cX0_tuneOf 1 = .ok (.getfield 15, 3) := by decide +kernel
theorem d102_4 : decode cX0_tuneOf 4 = .ok (.iconst 1, 1) := by decide +kernel
theorem d102_5 : decode cX0_tuneOf 5 = .ok (.if_icmp .ge 7, 3) := by decide +kernel
theorem d102_8 : decode cX0_tuneOf 8 = .ok (.iconst 0, 1) := by decide +kernel
theorem d102_9 : decode cX0_tuneOf 9 = .ok (.goto 9, 3) := by decide +kernel
theorem d102_12 : decode cX0_tuneOf 12 = .ok (.iload_n 1, 1) := by decide +kernel
theorem d102_13 : decode cX0_tuneOf 13 = .ok (.aload_n 0, 1) := by decide +kernel
theorem d102_14 : decode cX0_tuneOf 14 = .ok (.getfield 15, 3) := by decide +kernel
theorem d102_17 : decode cX0_tuneOf 17 = .ok (.irem, 1) := by decide +kernel
theorem d102_18 : decode cX0_tuneOf 18 = .ok (.ireturn, 1) := by decide +kernel
theorem v102_0 {w : PW} {Q : PO → PW → Prop} {b : Nat} {x1 : Int} (hs : Sh w) (hb : bx b) (hx1 : bd x1) (h : (1 ≤ (gI w b 1) → (0 < (gI w b 1) ∧ (gI w b 1) < 2147483648) ∧ Q (.inl (some (iv (x1.tmod (gI w b 1))))) w) ∧ ((gI w b 1) < 1 → Q (.inl (some (iv 0))) w)) : pX 102 0 [some (.ref b), some (iv x1)] [] w Q :=
  w_f b102 d102_0 rfl rfl rfl <| w_gi b102 d102_1 rfl rfl hs (bx00 hb) (tb0 hb) rfl <| w_f b102 d102_4 rfl rfl rfl <| w_icge b102 d102_5 rfl rfl (p102 _ _) (bd_gI _ _ _) ⟨by decide, by decide⟩ (fun c1 => w_f b102 d102_12 rfl rfl rfl <| w_f b102 d102_13 rfl rfl rfl <| w_gi b102 d102_14 rfl rfl hs (bx00 hb) (tb0 hb) rfl <| w_f b102 d102_17 rfl (pf_irem hx1 (h.1 c1).1) rfl <| w_ri b102 d102_18 r102 (h.1 c1).2) (fun c1 => w_f b102 d102_8 rfl rfl rfl <| w_j b102 d102_9 rfl (p102 _ _) <| w_ri b102 d102_18 r102 (h.2 c1))
theorem e102 {w : PW} {Q : PO → PW → Prop} {b : Nat} {x1 : Int} (hs : Sh w) (hb : bx b) (hx1 : bd x1) (h : (1 ≤ (gI w b 1) → (0 < (gI w b 1) ∧ (gI w b 1) < 2147483648) ∧ Q (.inl (some (iv (x1.tmod (gI w b 1))))) w) ∧ ((gI w b 1) < 1 → Q (.inl (some (iv 0))) w)) : pC 102 [.ref b, iv x1] w Q :=
  (pC_in (Nat.le_of_ble_eq_true rfl) rfl Q).mpr (v102_0 hs hb hx1 h)
theorem c102 {w : PW} {Q : PO → PW → Prop} {b : Nat} {x1 : Int} (hs : Sh w) (hb : bx b) (hx1 : bd x1) (h1 : 1 ≤ gI w b 1) (h : Q (.inl (some (iv (x1.tmod (gI w b 1))))) w) : pC 102 [.ref b, iv x1] w Q :=
  e102 hs hb hx1 ⟨fun _ => ⟨⟨by omega, (bd_gI w b 1).2⟩, h⟩, fun q => by omega⟩
/-! 103: PinBarrel$Box.toothOf(I)I -/
theorem b103 : mB 103 = cX0_toothOf := rfl
theorem r103 : mR 103 = (some .int) := rfl
theorem p103 (a b : Nat) : phi 103 a ≤ phi 103 b := Nat.le_refl 0
theorem d103_0 : decode cX0_toothOf 0 = .ok (.aload_n 0, 1) := by decide +kernel
theorem d103_1 : decode cX0_toothOf 1 = .ok (.getfield 15, 3) := by decide +kernel
theorem d103_4 : decode cX0_toothOf 4 = .ok (.iconst 1, 1) := by decide +kernel
theorem d103_5 : decode cX0_toothOf 5 = .ok (.if_icmp .ge 7, 3) := by decide +kernel
theorem d103_8 : decode cX0_toothOf 8 = .ok (.iconst 0, 1) := by decide +kernel
theorem d103_9 : decode cX0_toothOf 9 = .ok (.goto 9, 3) := by decide +kernel
theorem d103_12 : decode cX0_toothOf 12 = .ok (.iload_n 1, 1) := by decide +kernel
theorem d103_13 : decode cX0_toothOf 13 = .ok (.aload_n 0, 1) := by decide +kernel
theorem d103_14 : decode cX0_toothOf 14 = .ok (.getfield 15, 3) := by decide +kernel
theorem d103_17 : decode cX0_toothOf 17 = .ok (.idiv, 1) := by decide +kernel
theorem d103_18 : decode cX0_toothOf 18 = .ok (.ireturn, 1) := by decide +kernel
theorem v103_0 {w : PW} {Q : PO → PW → Prop} {b : Nat} {x1 : Int} (hs : Sh w) (hb : bx b) (hx1 : bd x1) (h : (1 ≤ (gI w b 1) → (0 < (gI w b 1) ∧ (gI w b 1) < 2147483648) ∧ Q (.inl (some (iv (x1.tdiv (gI w b 1))))) w) ∧ ((gI w b 1) < 1 → Q (.inl (some (iv 0))) w)) : pX 103 0 [some (.ref b), some (iv x1)] [] w Q :=
  w_f b103 d103_0 rfl rfl rfl <| w_gi b103 d103_1 rfl rfl hs (bx00 hb) (tb0 hb) rfl <| w_f b103 d103_4 rfl rfl rfl <| w_icge b103 d103_5 rfl rfl (p103 _ _) (bd_gI _ _ _) ⟨by decide, by decide⟩ (fun c1 => w_f b103 d103_12 rfl rfl rfl <| w_f b103 d103_13 rfl rfl rfl <| w_gi b103 d103_14 rfl rfl hs (bx00 hb) (tb0 hb) rfl <| w_f b103 d103_17 rfl (pf_idiv hx1 (h.1 c1).1) rfl <| w_ri b103 d103_18 r103 (h.1 c1).2) (fun c1 => w_f b103 d103_8 rfl rfl rfl <| w_j b103 d103_9 rfl (p103 _ _) <| w_ri b103 d103_18 r103 (h.2 c1))
theorem e103 {w : PW} {Q : PO → PW → Prop} {b : Nat} {x1 : Int} (hs : Sh w) (hb : bx b) (hx1 : bd x1) (h : (1 ≤ (gI w b 1) → (0 < (gI w b 1) ∧ (gI w b 1) < 2147483648) ∧ Q (.inl (some (iv (x1.tdiv (gI w b 1))))) w) ∧ ((gI w b 1) < 1 → Q (.inl (some (iv 0))) w)) : pC 103 [.ref b, iv x1] w Q :=
  (pC_in (Nat.le_of_ble_eq_true rfl) rfl Q).mpr (v103_0 hs hb hx1 h)
theorem c103 {w : PW} {Q : PO → PW → Prop} {b : Nat} {x1 : Int} (hs : Sh w) (hb : bx b) (hx1 : bd x1) (h1 : 1 ≤ gI w b 1) (h : Q (.inl (some (iv (x1.tdiv (gI w b 1))))) w) : pC 103 [.ref b, iv x1] w Q :=
  e103 hs hb hx1 ⟨fun _ => ⟨⟨by omega, (bd_gI w b 1).2⟩, h⟩, fun q => by omega⟩
/-! 116: PinBarrel$Search.rank(LPinBarrel$Notes;I)I -/
theorem b116 : mB 116 = cX6_rank := rfl
theorem r116 : mR 116 = (some .int) := rfl
theorem p116 (a b : Nat) : phi 116 a ≤ phi 116 b := Nat.le_refl 0
theorem d116_0 : decode cX6_rank 0 = .ok (.bipush 24, 2) := by decide +kernel
theorem d116_2 : decode cX6_rank 2 = .ok (.aload_n 0, 1) := by decide +kernel
theorem d116_3 : decode cX6_rank 3 = .ok (.getfield 94, 3) := by decide +kernel
theorem d116_6 : decode cX6_rank 6 = .ok (.iload_n 1, 1) := by decide +kernel
theorem d116_7 : decode cX6_rank 7 = .ok (.iaload, 1) := by decide +kernel
theorem d116_8 : decode cX6_rank 8 = .ok (.imul, 1) := by decide +kernel
theorem d116_9 : decode cX6_rank 9 = .ok (.aload_n 0, 1) := by decide +kernel
theorem d116_10 : decode cX6_rank 10 = .ok (.getfield 42, 3) := by decide +kernel
theorem d116_13 : decode cX6_rank 13 = .ok (.iload_n 1, 1) := by decide +kernel
theorem d116_14 : decode cX6_rank 14 = .ok (.iaload, 1) := by decide +kernel
theorem d116_15 : decode cX6_rank 15 = .ok (.iadd, 1) := by decide +kernel
theorem d116_16 : decode cX6_rank 16 = .ok (.ireturn, 1) := by decide +kernel
theorem v116_0 {w : PW} {Q : PO → PW → Prop} {c : Nat} {x1 : Int} (hs : Sh w) (hc : bx c) (hx1 : bd x1) (h : (0 ≤ x1 ∧ x1 < 60) ∧ (0 ≤ x1 ∧ x1 < 60) ∧ Q (.inl (some (iv ((24 * (gI w (c + 6) x1.toNat)) + (gI w (c + 7) x1.toNat))))) w) : pX 116 0 [some (.ref (c + 4)), some (iv x1)] [] w Q :=
  w_f b116 d116_0 rfl rfl rfl <| w_f b116 d116_2 rfl rfl rfl <| w_gr b116 d116_3 rfl rfl hs (bxk hc 4 rfl) (tb4 hc) rfl (bxr hc 6 rfl) <| w_f b116 d116_6 rfl rfl rfl <| w_ial b116 d116_7 rfl hs (bxk hc 6 rfl) (tb6 hc) (bdix (n := 60) h.1 rfl) h.1 <| w_f b116 d116_8 rfl (pf_imul 24 (gI w (c + 6) x1.toNat)) rfl <| w_f b116 d116_9 rfl rfl rfl <| w_gr b116 d116_10 rfl rfl hs (bxk hc 4 rfl) (tb4 hc) rfl (bxr hc 7 rfl) <| w_f b116 d116_13 rfl rfl rfl <| w_ial b116 d116_14 rfl hs (bxk hc 7 rfl) (tb7 hc) (bdix (n := 60) h.2.1 rfl) h.2.1 <| w_f b116 d116_15 rfl (pf_iadd (24 * (gI w (c + 6) x1.toNat)) (gI w (c + 7) x1.toNat)) rfl <| w_ri b116 d116_16 r116 h.2.2
theorem e116 {w : PW} {Q : PO → PW → Prop} {c : Nat} {x1 : Int} (hs : Sh w) (hc : bx c) (hx1 : bd x1) (h : (0 ≤ x1 ∧ x1 < 60) ∧ (0 ≤ x1 ∧ x1 < 60) ∧ Q (.inl (some (iv ((24 * (gI w (c + 6) x1.toNat)) + (gI w (c + 7) x1.toNat))))) w) : pC 116 [.ref (c + 4), iv x1] w Q :=
  (pC_in (Nat.le_of_ble_eq_true rfl) rfl Q).mpr (v116_0 hs hc hx1 h)
theorem c116 {w : PW} {Q : PO → PW → Prop} {c : Nat} {x1 : Int} (hs : Sh w) (hc : bx c) (hx1 : bd x1) (h1 : 0 ≤ x1 ∧ x1 < 60) (h : Q (.inl (some (iv (24 * (gI w (c + 6) x1.toNat) + (gI w (c + 7) x1.toNat))))) w) : pC 116 [.ref (c + 4), iv x1] w Q := e116 hs hc hx1 ⟨h1, h1, h⟩
/-! 120: PinBarrel$Search.pinsOn(I)J -/
theorem b120 : mB 120 = cX6_pinsOn := rfl
theorem r120 : mR 120 = (some .long) := rfl
theorem p120 (a b : Nat) : phi 120 a ≤ phi 120 b := Nat.le_refl 0
theorem d120_0 : decode cX6_pinsOn 0 = .ok (.iload_n 1, 1) := by decide +kernel
theorem d120_1 : decode cX6_pinsOn 1 = .ok (.ifCond .lt 9, 3) := by decide +kernel
theorem d120_4 : decode cX6_pinsOn 4 = .ok (.iload_n 1, 1) := by decide +kernel
theorem d120_5 : decode cX6_pinsOn 5 = .ok (.bipush 36, 2) := by decide +kernel
theorem d120_7 : decode cX6_pinsOn 7 = .ok (.if_icmp .lt 7, 3) := by decide +kernel
theorem d120_10 : decode cX6_pinsOn 10 = .ok (.lconst 0, 1) := by decide +kernel
theorem d120_11 : decode cX6_pinsOn 11 = .ok (.goto 9, 3) := by decide +kernel
theorem d120_14 : decode cX6_pinsOn 14 = .ok (.aload_n 0, 1) := by decide +kernel
theorem d120_15 : decode cX6_pinsOn 15 = .ok (.getfield 28, 3) := by decide +kernel
theorem d120_18 : decode cX6_pinsOn 18 = .ok (.iload_n 1, 1) := by decide +kernel
theorem d120_19 : decode cX6_pinsOn 19 = .ok (.laload, 1) := by decide +kernel
theorem d120_20 : decode cX6_pinsOn 20 = .ok (.lreturn, 1) := by decide +kernel
theorem v120_0 {w : PW} {Q : PO → PW → Prop} {x1 : Int} (hs : Sh w) (hx1 : bd x1) (h : (x1 < 0 → Q (.inl (some (.long ((0 : Int64))))) w) ∧ (0 ≤ x1 → (x1 < 36 → (0 ≤ x1 ∧ x1 < 36) ∧ Q (.inl (some (.long (gL w 142 x1.toNat)))) w) ∧ (36 ≤ x1 → Q (.inl (some (.long ((0 : Int64))))) w))) : pX 120 0 [some (.ref 139), some (iv x1)] [] w Q :=
  w_f b120 d120_0 rfl rfl rfl <| w_iflt b120 d120_1 rfl rfl (p120 _ _) hx1 (fun c1 => w_f b120 d120_10 rfl rfl rfl <| w_j b120 d120_11 rfl (p120 _ _) <| w_rl b120 d120_20 r120 (h.1 c1)) (fun c1 => w_f b120 d120_4 rfl rfl rfl <| w_f b120 d120_5 rfl rfl rfl <| w_iclt b120 d120_7 rfl rfl (p120 _ _) hx1 ⟨by decide, by decide⟩ (fun c2 => w_f b120 d120_14 rfl rfl rfl <| w_gr b120 d120_15 rfl rfl hs (tlt 139 rfl) tbC_139 rfl (by decide) <| w_f b120 d120_18 rfl rfl rfl <| w_lal b120 d120_19 rfl hs (tlt 142 rfl) tbC_142 (bdix (n := 36) ((h.2 c1).1 c2).1 rfl) ((h.2 c1).1 c2).1 <| w_rl b120 d120_20 r120 ((h.2 c1).1 c2).2) (fun c2 => w_f b120 d120_10 rfl rfl rfl <| w_j b120 d120_11 rfl (p120 _ _) <| w_rl b120 d120_20 r120 ((h.2 c1).2 c2)))
theorem e120 {w : PW} {Q : PO → PW → Prop} {x1 : Int} (hs : Sh w) (hx1 : bd x1) (h : (x1 < 0 → Q (.inl (some (.long ((0 : Int64))))) w) ∧ (0 ≤ x1 → (x1 < 36 → (0 ≤ x1 ∧ x1 < 36) ∧ Q (.inl (some (.long (gL w 142 x1.toNat)))) w) ∧ (36 ≤ x1 → Q (.inl (some (.long ((0 : Int64))))) w))) : pC 120 [.ref 139, iv x1] w Q :=
  (pC_in (Nat.le_of_ble_eq_true rfl) rfl Q).mpr (v120_0 hs hx1 h)
theorem c120 {w : PW} {Q : PO → PW → Prop} {x1 : Int} (hs : Sh w) (hx1 : bd x1) (h : Q (.inl (some (.long (lT w x1)))) w) : pC 120 [.ref 139, iv x1] w Q := by
  refine e120 hs hx1 ⟨fun q => ?_, fun q => ⟨fun q2 => ⟨⟨q, q2⟩, ?_⟩, fun q2 => ?_⟩⟩
  · unfold lT at h; rw [if_neg (by omega)] at h; exact h
  · unfold lT at h; rw [if_pos ⟨q, q2⟩] at h; exact h
  · unfold lT at h; rw [if_neg (by omega)] at h; exact h
/-! 129: PinBarrel$Search.isFound()Z -/
theorem b129 : mB 129 = cX6_isFound := rfl
theorem r129 : mR 129 = (some .boolean) := rfl
theorem p129 (a b : Nat) : phi 129 a ≤ phi 129 b := Nat.le_refl 0
theorem d129_0 : decode cX6_isFound 0 = .ok (.aload_n 0, 1) := by decide +kernel
theorem d129_1 : decode cX6_isFound 1 = .ok (.getfield 11, 3) := by decide +kernel
theorem d129_4 : decode cX6_isFound 4 = .ok (.iconst 1, 1) := by decide +kernel
theorem d129_5 : decode cX6_isFound 5 = .ok (.if_icmp .ne 7, 3) := by decide +kernel
theorem d129_8 : decode cX6_isFound 8 = .ok (.iconst 1, 1) := by decide +kernel
theorem d129_9 : decode cX6_isFound 9 = .ok (.goto 4, 3) := by decide +kernel
theorem d129_12 : decode cX6_isFound 12 = .ok (.iconst 0, 1) := by decide +kernel
theorem d129_13 : decode cX6_isFound 13 = .ok (.ireturn, 1) := by decide +kernel
theorem v129_0 {w : PW} {Q : PO → PW → Prop}  (hs : Sh w)  (h : ((gI w 139 0) ≠ 1 → Q (.inl (some (iv 0))) w) ∧ ((gI w 139 0) = 1 → Q (.inl (some (iv 1))) w)) : pX 129 0 [some (.ref 139)] [] w Q :=
  w_f b129 d129_0 rfl rfl rfl <| w_gi b129 d129_1 rfl rfl hs (tlt 139 rfl) tbC_139 rfl <| w_f b129 d129_4 rfl rfl rfl <| w_icne b129 d129_5 rfl rfl (p129 _ _) (bd_gI _ _ _) ⟨by decide, by decide⟩ (fun c1 => w_f b129 d129_12 rfl rfl rfl <| w_rz b129 d129_13 r129 (by decide) (h.1 c1)) (fun c1 => w_f b129 d129_8 rfl rfl rfl <| w_j b129 d129_9 rfl (p129 _ _) <| w_rz b129 d129_13 r129 (by decide) (h.2 c1))
theorem e129 {w : PW} {Q : PO → PW → Prop}  (hs : Sh w)  (h : ((gI w 139 0) ≠ 1 → Q (.inl (some (iv 0))) w) ∧ ((gI w 139 0) = 1 → Q (.inl (some (iv 1))) w)) : pC 129 [.ref 139] w Q :=
  (pC_in (Nat.le_of_ble_eq_true rfl) rfl Q).mpr (v129_0 hs  h)
theorem c129 {w : PW} {Q : PO → PW → Prop} (hs : Sh w) (h : Q (.inl (some (iv (if gI w 139 0 = 1 then 1 else 0)))) w) : pC 129 [.ref 139] w Q :=
  e129 hs ⟨fun q => by rw [if_neg q] at h; exact h, fun q => by rw [if_pos q] at h; exact h⟩
/-! 146: PinBarrel.checkPitch(I)V -/
theorem b146 : mB 146 = cX8_checkPitch := rfl
theorem r146 : mR 146 = none := rfl
theorem d146_0 : decode cX8_checkPitch 0 = .ok (.aload_n 0, 1) := by decide +kernel
theorem d146_1 : decode cX8_checkPitch 1 = .ok (.iload_n 1, 1) := by decide +kernel
theorem d146_2 : decode cX8_checkPitch 2 = .ok (.iconst 0, 1) := by decide +kernel
theorem d146_3 : decode cX8_checkPitch 3 = .ok (.bipush 23, 2) := by decide +kernel
theorem d146_5 : decode cX8_checkPitch 5 = .ok (.invokevirtual 223, 3) := by decide +kernel
theorem d146_8 : decode cX8_checkPitch 8 = .ok (.return_, 1) := by decide +kernel
theorem v146_0 {w : PW} {Q : PO → PW → Prop} {x1 : Int} (hs : Sh w) (hx1 : bd x1) (h : ((0 ≤ x1 ∧ x1 ≤ 23) → Q (.inl none) w) ∧ (¬ (0 ≤ x1 ∧ x1 ≤ 23) → Q (.inr 1) w)) : pX 146 0 [some (.ref 0), some (iv x1)] [] w Q :=
  w_f b146 d146_0 rfl rfl rfl <| w_f b146 d146_1 rfl rfl rfl <| w_f b146 d146_2 rfl rfl rfl <| w_f b146 d146_3 rfl rfl rfl <| w_cc b146 d146_5 rfl (pcl_v (n := 3) rfl rfl rfl (by decide +kernel) (sh_isOb hs (tlt 0 rfl) tbC_0) rfl rfl) rfl <| c76 hs hx1 ⟨by decide, by decide⟩ ⟨by decide, by decide⟩ (fun c1 => w_rv b146 d146_8 r146 (h.1 c1)) (fun c1 => h.2 c1)
theorem e146 {w : PW} {Q : PO → PW → Prop} {x1 : Int} (hs : Sh w) (hx1 : bd x1) (h : ((0 ≤ x1 ∧ x1 ≤ 23) → Q (.inl none) w) ∧ (¬ (0 ≤ x1 ∧ x1 ≤ 23) → Q (.inr 1) w)) : pC 146 [.ref 0, iv x1] w Q :=
  (pC_in (Nat.le_of_ble_eq_true rfl) rfl Q).mpr (v146_0 hs hx1 h)
theorem c146 {w : PW} {Q : PO → PW → Prop} {x1 : Int} (hs : Sh w) (hx1 : bd x1) (h1 : 0 ≤ x1 ∧ x1 ≤ 23 → Q (.inl none) w) (h2 : ¬ (0 ≤ x1 ∧ x1 ≤ 23) → Q (.inr 1) w) : pC 146 [.ref 0, iv x1] w Q := e146 hs hx1 ⟨h1, h2⟩
