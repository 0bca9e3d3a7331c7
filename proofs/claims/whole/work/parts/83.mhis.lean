/-! THE MODEL's ACTIONS: what is kept for undo -/
/-! 326: PinBarrelModel.keeps()V -/
theorem b326 : mB 326 = cX9_keeps := rfl
theorem r326 : mR 326 = none := rfl
theorem p326 (a b : Nat) : phi 326 a ≤ phi 326 b := Nat.le_refl 0
theorem d326_0 : decode cX9_keeps 0 = .ok (.aload_n 0, 1) := by decide +kernel
theorem d326_1 : decode cX9_keeps 1 = .ok (.getfield 53, 3) := by decide +kernel
theorem d326_4 : decode cX9_keeps 4 = .ok (.bipush 8, 2) := by decide +kernel
theorem d326_6 : decode cX9_keeps 6 = .ok (.if_icmp .ne 49, 3) := by decide +kernel
theorem d326_9 : decode cX9_keeps 9 = .ok (.aload_n 0, 1) := by decide +kernel
theorem d326_10 : decode cX9_keeps 10 = .ok (.dup, 1) := by decide +kernel
theorem d326_11 : decode cX9_keeps 11 = .ok (.getfield 53, 3) := by decide +kernel
theorem d326_14 : decode cX9_keeps 14 = .ok (.iconst 1, 1) := by decide +kernel
theorem d326_15 : decode cX9_keeps 15 = .ok (.isub, 1) := by decide +kernel
theorem d326_16 : decode cX9_keeps 16 = .ok (.putfield 53, 3) := by decide +kernel
theorem d326_19 : decode cX9_keeps 19 = .ok (.iconst 0, 1) := by decide +kernel
theorem d326_20 : decode cX9_keeps 20 = .ok (.istore_n 1, 1) := by decide +kernel
theorem d326_21 : decode cX9_keeps 21 = .ok (.iload_n 1, 1) := by decide +kernel
theorem d326_22 : decode cX9_keeps 22 = .ok (.aload_n 0, 1) := by decide +kernel
theorem d326_23 : decode cX9_keeps 23 = .ok (.getfield 53, 3) := by decide +kernel
theorem d326_26 : decode cX9_keeps 26 = .ok (.sipush 843, 3) := by decide +kernel
theorem d326_29 : decode cX9_keeps 29 = .ok (.imul, 1) := by decide +kernel
theorem d326_30 : decode cX9_keeps 30 = .ok (.if_icmp .ge 25, 3) := by decide +kernel
theorem d326_33 : decode cX9_keeps 33 = .ok (.aload_n 0, 1) := by decide +kernel
theorem d326_34 : decode cX9_keeps 34 = .ok (.getfield 23, 3) := by decide +kernel
theorem d326_37 : decode cX9_keeps 37 = .ok (.iload_n 1, 1) := by decide +kernel
theorem d326_38 : decode cX9_keeps 38 = .ok (.aload_n 0, 1) := by decide +kernel
theorem d326_39 : decode cX9_keeps 39 = .ok (.getfield 23, 3) := by decide +kernel
theorem d326_42 : decode cX9_keeps 42 = .ok (.iload_n 1, 1) := by decide +kernel
theorem d326_43 : decode cX9_keeps 43 = .ok (.sipush 843, 3) := by decide +kernel
theorem d326_46 : decode cX9_keeps 46 = .ok (.iadd, 1) := by decide +kernel
theorem d326_47 : decode cX9_keeps 47 = .ok (.iaload, 1) := by decide +kernel
theorem d326_48 : decode cX9_keeps 48 = .ok (.iastore, 1) := by decide +kernel
theorem d326_49 : decode cX9_keeps 49 = .ok (.iinc 1 1, 3) := by decide +kernel
theorem d326_52 : decode cX9_keeps 52 = .ok (.goto (-31), 3) := by decide +kernel
theorem d326_55 : decode cX9_keeps 55 = .ok (.iconst 0, 1) := by decide +kernel
theorem d326_56 : decode cX9_keeps 56 = .ok (.istore_n 1, 1) := by decide +kernel
theorem d326_57 : decode cX9_keeps 57 = .ok (.iload_n 1, 1) := by decide +kernel
theorem d326_58 : decode cX9_keeps 58 = .ok (.sipush 843, 3) := by decide +kernel
theorem d326_61 : decode cX9_keeps 61 = .ok (.if_icmp .ge 30, 3) := by decide +kernel
theorem d326_64 : decode cX9_keeps 64 = .ok (.aload_n 0, 1) := by decide +kernel
theorem d326_65 : decode cX9_keeps 65 = .ok (.getfield 23, 3) := by decide +kernel
theorem d326_68 : decode cX9_keeps 68 = .ok (.sipush 843, 3) := by decide +kernel
theorem d326_71 : decode cX9_keeps 71 = .ok (.aload_n 0, 1) := by decide +kernel
theorem d326_72 : decode cX9_keeps 72 = .ok (.getfield 53, 3) := by decide +kernel
theorem d326_75 : decode cX9_keeps 75 = .ok (.imul, 1) := by decide +kernel
theorem d326_76 : decode cX9_keeps 76 = .ok (.iload_n 1, 1) := by decide +kernel
theorem d326_77 : decode cX9_keeps 77 = .ok (.iadd, 1) := by decide +kernel
theorem d326_78 : decode cX9_keeps 78 = .ok (.aload_n 0, 1) := by decide +kernel
theorem d326_79 : decode cX9_keeps 79 = .ok (.getfield 9, 3) := by decide +kernel
theorem d326_82 : decode cX9_keeps 82 = .ok (.iload_n 1, 1) := by decide +kernel
theorem d326_83 : decode cX9_keeps 83 = .ok (.iaload, 1) := by decide +kernel
theorem d326_84 : decode cX9_keeps 84 = .ok (.iastore, 1) := by decide +kernel
theorem d326_85 : decode cX9_keeps 85 = .ok (.iinc 1 1, 3) := by decide +kernel
theorem d326_88 : decode cX9_keeps 88 = .ok (.goto (-31), 3) := by decide +kernel
theorem d326_91 : decode cX9_keeps 91 = .ok (.aload_n 0, 1) := by decide +kernel
theorem d326_92 : decode cX9_keeps 92 = .ok (.dup, 1) := by decide +kernel
theorem d326_93 : decode cX9_keeps 93 = .ok (.getfield 53, 3) := by decide +kernel
theorem d326_96 : decode cX9_keeps 96 = .ok (.iconst 1, 1) := by decide +kernel
theorem d326_97 : decode cX9_keeps 97 = .ok (.iadd, 1) := by decide +kernel
theorem d326_98 : decode cX9_keeps 98 = .ok (.putfield 53, 3) := by decide +kernel
theorem d326_101 : decode cX9_keeps 101 = .ok (.return_, 1) := by decide +kernel
theorem v326_0 {w : PW} {Q : PO → PW → Prop}  (hs : Sh w)  (h : ((gI w 169 6) ≠ 8 → pX 326 57 [some (.ref 169), some (iv 0)] [] w Q) ∧ ((gI w 169 6) = 8 → ∀ w2 : PW, w2 = sI w 169 6 ((gI w 169 6) - 1) → pX 326 21 [some (.ref 169), some (iv 0)] [] w2 Q)) : pX 326 0 [some (.ref 169), none] [] w Q :=
  w_f b326 d326_0 rfl rfl rfl <| w_gi b326 d326_1 rfl rfl hs (tlt 169 rfl) tbC_169 rfl <| w_f b326 d326_4 rfl rfl rfl <| w_icne b326 d326_6 rfl rfl (p326 _ _) (bd_gI _ _ _) ⟨by decide, by decide⟩ (fun c1 => w_f b326 d326_55 rfl rfl rfl <| w_f b326 d326_56 rfl rfl rfl <| (h.1 c1)) (fun c1 => w_f b326 d326_9 rfl rfl rfl <| w_f b326 d326_10 rfl rfl rfl <| w_gi b326 d326_11 rfl rfl hs (tlt 169 rfl) tbC_169 rfl <| w_f b326 d326_14 rfl rfl rfl <| w_f b326 d326_15 rfl (pf_isub (gI w 169 6) 1) rfl <| w_pi b326 d326_16 rfl rfl hs (tlt 169 rfl) tbC_169 rfl rfl rfl <| w_f b326 d326_19 rfl rfl rfl <| w_f b326 d326_20 rfl rfl rfl <| ((h.2 c1) _ rfl))
theorem e326 {w : PW} {Q : PO → PW → Prop}  (hs : Sh w)  (h : ((gI w 169 6) ≠ 8 → pX 326 57 [some (.ref 169), some (iv 0)] [] w Q) ∧ ((gI w 169 6) = 8 → ∀ w2 : PW, w2 = sI w 169 6 ((gI w 169 6) - 1) → pX 326 21 [some (.ref 169), some (iv 0)] [] w2 Q)) : pC 326 [.ref 169] w Q :=
  (pC_in (Nat.le_of_ble_eq_true rfl) rfl Q).mpr (v326_0 hs  h)
theorem v326_21 {w : PW} {Q : PO → PW → Prop} {x1 : Int} (hs : Sh w) (hx1 : bd x1) (h : (bd ((gI w 169 6) * 843)) ∧ (((gI w 169 6) * 843) ≤ x1 → pX 326 57 [some (.ref 169), some (iv 0)] [] w Q) ∧ (x1 < ((gI w 169 6) * 843) → (0 ≤ (x1 + 843) ∧ (x1 + 843) < 6744) ∧ (0 ≤ x1 ∧ x1 < 6744) ∧ ∀ w2 : PW, w2 = sI w 174 x1.toNat (gI w 174 (x1 + 843).toNat) → pX 326 21 [some (.ref 169), some (iv (x1 + 1))] [] w2 Q)) : pX 326 21 [some (.ref 169), some (iv x1)] [] w Q :=
  w_f b326 d326_21 rfl rfl rfl <| w_f b326 d326_22 rfl rfl rfl <| w_gi b326 d326_23 rfl rfl hs (tlt 169 rfl) tbC_169 rfl <| w_f b326 d326_26 rfl rfl rfl <| w_f b326 d326_29 rfl (pf_imul (gI w 169 6) 843) rfl <| w_icge b326 d326_30 rfl rfl (p326 _ _) hx1 h.1 (fun c1 => w_f b326 d326_55 rfl rfl rfl <| w_f b326 d326_56 rfl rfl rfl <| (h.2.1 c1)) (fun c1 => w_f b326 d326_33 rfl rfl rfl <| w_gr b326 d326_34 rfl rfl hs (tlt 169 rfl) tbC_169 rfl (by decide) <| w_f b326 d326_37 rfl rfl rfl <| w_f b326 d326_38 rfl rfl rfl <| w_gr b326 d326_39 rfl rfl hs (tlt 169 rfl) tbC_169 rfl (by decide) <| w_f b326 d326_42 rfl rfl rfl <| w_f b326 d326_43 rfl rfl rfl <| w_f b326 d326_46 rfl (pf_iadd x1 843) rfl <| w_ial b326 d326_47 rfl hs (tlt 174 rfl) tbC_174 (bdix (n := 6744) (h.2.2 c1).1 rfl) (h.2.2 c1).1 <| w_ias b326 d326_48 rfl hs (tlt 174 rfl) tbC_174 (bdix (n := 6744) (h.2.2 c1).2.1 rfl) (h.2.2 c1).2.1 <| w_f b326 d326_49 rfl (pf_iinc rfl rfl) rfl <| w_j b326 d326_52 rfl (p326 _ _) <| ((h.2.2 c1).2.2 _ rfl))
theorem v326_57 {w : PW} {Q : PO → PW → Prop} {x1 : Int} (hs : Sh w) (hx1 : bd x1) (h : (843 ≤ x1 → ∀ w2 : PW, w2 = sI w 169 6 ((gI w 169 6) + 1) → Q (.inl none) w2) ∧ (x1 < 843 → (0 ≤ x1 ∧ x1 < 843) ∧ (0 ≤ ((843 * (gI w 169 6)) + x1) ∧ ((843 * (gI w 169 6)) + x1) < 6744) ∧ ∀ w3 : PW, w3 = sI w 174 ((843 * (gI w 169 6)) + x1).toNat (gI w 170 x1.toNat) → pX 326 57 [some (.ref 169), some (iv (x1 + 1))] [] w3 Q)) : pX 326 57 [some (.ref 169), some (iv x1)] [] w Q :=
  w_f b326 d326_57 rfl rfl rfl <| w_f b326 d326_58 rfl rfl rfl <| w_icge b326 d326_61 rfl rfl (p326 _ _) hx1 ⟨by decide, by decide⟩ (fun c1 => w_f b326 d326_91 rfl rfl rfl <| w_f b326 d326_92 rfl rfl rfl <| w_gi b326 d326_93 rfl rfl hs (tlt 169 rfl) tbC_169 rfl <| w_f b326 d326_96 rfl rfl rfl <| w_f b326 d326_97 rfl (pf_iadd (gI w 169 6) 1) rfl <| w_pi b326 d326_98 rfl rfl hs (tlt 169 rfl) tbC_169 rfl rfl rfl <| w_rv b326 d326_101 r326 ((h.1 c1) _ rfl)) (fun c1 => w_f b326 d326_64 rfl rfl rfl <| w_gr b326 d326_65 rfl rfl hs (tlt 169 rfl) tbC_169 rfl (by decide) <| w_f b326 d326_68 rfl rfl rfl <| w_f b326 d326_71 rfl rfl rfl <| w_gi b326 d326_72 rfl rfl hs (tlt 169 rfl) tbC_169 rfl <| w_f b326 d326_75 rfl (pf_imul 843 (gI w 169 6)) rfl <| w_f b326 d326_76 rfl rfl rfl <| w_f b326 d326_77 rfl (pf_iadd (843 * (gI w 169 6)) x1) rfl <| w_f b326 d326_78 rfl rfl rfl <| w_gr b326 d326_79 rfl rfl hs (tlt 169 rfl) tbC_169 rfl (by decide) <| w_f b326 d326_82 rfl rfl rfl <| w_ial b326 d326_83 rfl hs (tlt 170 rfl) tbC_170 (bdix (n := 843) (h.2 c1).1 rfl) (h.2 c1).1 <| w_ias b326 d326_84 rfl hs (tlt 174 rfl) tbC_174 (bdix (n := 6744) (h.2 c1).2.1 rfl) (h.2 c1).2.1 <| w_f b326 d326_85 rfl (pf_iinc rfl rfl) rfl <| w_j b326 d326_88 rfl (p326 _ _) <| ((h.2 c1).2.2 _ rfl))
def HM (w : PW) (H : Nat → Row) (n : Nat) : Prop := gI w 169 6 = (n : Nat) ∧ n ≤ 8 ∧ ∀ j k, j < n → k < 843 → gI w 174 (843 * j + k) = H j k
/-- what an action of the model leaves -/
def MAF (w w2 : PW) : Prop := Sh w2 ∧ (∀ c, ¬ (169 ≤ c ∧ c ≤ 171) → c ≠ 174 → ¬ (176 ≤ c ∧ c ≤ 178) → w2.2.2 c = w.2.2 c) ∧ (gI w2 169 8 = gI w 169 8 ∧ gI w2 169 12 = gI w 169 12 ∧ gI w2 169 15 = gI w 169 15 ∧ gI w2 169 30 = gI w 169 30)
/-- what keeping a row leaves -/
def MKF (w w2 : PW) : Prop := Sh w2 ∧ (∀ c, c ≠ 169 → c ≠ 174 → w2.2.2 c = w.2.2 c) ∧ ∀ j, j ≠ 6 → gI w2 169 j = gI w 169 j
section MHI
variable {w w1 w2 : PW} {Q : PO → PW → Prop} {m : Row} {H : Nat → Row} {n : Nat} {E : Nat} {r s : AR}
theorem MAF.rf (hs : Sh w) : MAF w w := ⟨hs, fun _ _ _ _ => rfl, rfl, rfl, rfl, rfl⟩
theorem MAF.tr (h1 : MAF w w1) (h2 : MAF w1 w2) : MAF w w2 := by
  obtain ⟨-, a1, a2, a3, a4, a5⟩ := h1
  obtain ⟨b0, b1, b2, b3, b4, b5⟩ := h2
  exact ⟨b0, fun c c1 c2 c3 => (b1 c c1 c2 c3).trans (a1 c c1 c2 c3), b2.trans a2, b3.trans a3, b4.trans a4, b5.trans a5⟩
theorem MqF.ma (h : MqF w w2) : MAF w w2 := by
  obtain ⟨s, a1, -, a3, a4, a5, a6, a7⟩ := h
  exact ⟨s, fun c c1 _ c3 => a1 c c1 c3, a4, a5, a6, a7⟩
theorem MG.ma (h : MG w w2) : MAF w w2 := by
  obtain ⟨s, a1, ⟨a2, a3, a4, a5, a6, a7⟩, a8⟩ := h
  exact ⟨s, fun c c1 _ c3 => a1 c c1 c3, a3, a4, a5, a6⟩
theorem MKF.ma (h : MKF w w2) : MAF w w2 := ⟨h.1, fun c c1 c2 _ => h.2.1 c (by omega) c2, h.2.2 8 (by decide), h.2.2 12 (by decide), h.2.2 15 (by decide), h.2.2 30 (by decide)⟩
theorem MKF.mr (h : MKF w w2) (hM : MR w m) : MR w2 m := hM.cell (h.2.1 170 (by decide) (by decide))
theorem HM.cells (h : HM w H n) (h6 : gI w2 169 6 = gI w 169 6) (hc : w2.2.2 174 = w.2.2 174) : HM w2 H n := ⟨h6.trans h.1, h.2.1, fun j k hj hk => by rw [gI_cell hc]; exact h.2.2 j k hj hk⟩
theorem HM.mq (h : HM w H n) (F : MqF w w2) : HM w2 H n := h.cells F.2.2.2.1 (F.2.1 174 (by decide) (by decide))
theorem HM.mg (h : HM w H n) (F : MG w w2) : HM w2 H n := h.cells F.2.2.1.1 (F.2.1 174 (by decide) (by decide))
def mA (w : PW) (H : Nat → Row) (n : Nat) (m : Row) (Q : PO → PW → Prop) (s : AR) : Prop := ∀ w2, MAF w w2 → gI w2 169 0 = moE s.1 → MR w2 (aM m s.2) → HM w2 (aH H n m s.2) (aN n s.2) → Q (moV s.1) w2
theorem mA_t {P : Prop} [Decidable P] (h : mA w H n m Q (aP P E r)) (q : P) : mA w H n m Q r := by
  have e : aP P E r = r := if_pos q
  rw [e] at h
  exact h
theorem mA_f {P : Prop} [Decidable P] (h : mA w H n m Q (aP P E r)) (q : ¬ P) : mA w H n m Q (.inr E, none) := by
  have e : aP P E r = (.inr E, none) := if_neg q
  rw [e] at h
  exact h
theorem mAq_t {P : Prop} [Decidable P] (h : mA w H n m Q (aQ P r s)) (q : P) : mA w H n m Q r := by
  have e : aQ P r s = r := if_pos q
  rw [e] at h
  exact h
theorem mAq_f {P : Prop} [Decidable P] (h : mA w H n m Q (aQ P r s)) (q : ¬ P) : mA w H n m Q s := by
  have e : aQ P r s = s := if_neg q
  rw [e] at h
  exact h
theorem mA_fr (h : mA w H n m Q s) (F : MAF w w1) : mA w1 H n m Q s := fun w2 A g M hh => h w2 (F.tr A) g M hh
theorem mA_no {z : Int} (h : mA w H n m Q (rI z, none)) (F : MqF w w2) (g : gI w2 169 0 = 0) (hM : MR w m) (hH : HM w H n) : Q (.inl (some (iv z))) w2 := h w2 F.ma g (F.mr hM) (hH.mq F)
theorem mA_yes {z : Int} {m' : Row} (h : mA w H n m Q (rI z, some m')) (F : MAF w w2) (g : gI w2 169 0 = 0) (hM : MR w2 m') (hH : HM w2 (hPush H n m) (hLen n)) : Q (.inl (some (iv z))) w2 := h w2 F g hM hH
theorem mA_err (hs : Sh w) (hM : MR w m) (hH : HM w H n) (hE : E < 1000) (h : mA w H n m Q (.inr E, none)) (e : w2 = sI w 169 0 (E : Nat)) : Q (.inl (some (iv 0))) w2 := by
  obtain ⟨F2, g2⟩ := MqF.th hs e (bdk (by omega))
  exact h w2 F2.ma g2 (F2.mr hM) (hH.mq F2)
/-- an action that is done, or refused -/
theorem mA_go {P : Prop} [Decidable P] (hs : Sh w) (hM : MR w m) (hH : HM w H n) (hE : E < 1000) (h : mA w H n m Q (aP P E r)) : (P → ∀ w2, w2 = sI w 169 0 0 → MqF w w2 ∧ gI w2 169 0 = 0 ∧ mA w2 H n m Q r) ∧ (¬ P → ∀ w2, w2 = sI w 169 0 (E : Nat) → Q (.inl (some (iv 0))) w2) := by
  refine ⟨fun q w2 e2 => ?_, fun q w2 e2 => mA_err hs hM hH hE (mA_f h q) e2⟩
  obtain ⟨F2, g2⟩ := MqF.th hs e2 bd0
  exact ⟨F2, g2, mA_fr (mA_t h q) F2.ma⟩
theorem l326_57 {w : PW} {Q : PO → PW → Prop} {a : Nat} {m : Row} (hs : Sh w) (hM : MR w m) (ha : gI w 169 6 = (a : Nat)) (ha8 : a < 8) (h : ∀ w2, MKF w w2 → gI w2 169 6 = ((a + 1 : Nat) : Int) → (∀ j, j < 6744 → gI w2 174 j = if 843 * a ≤ j ∧ j < 843 * a + 843 then m (j - 843 * a) else gI w 174 j) → Q (.inl none) w2) : ∀ k i : Nat, i + k = 843 → ∀ w1, Sh w1 → (∀ c, c ≠ 174 → w1.2.2 c = w.2.2 c) → (∀ j, j < 6744 → gI w1 174 j = if 843 * a ≤ j ∧ j < 843 * a + i then m (j - 843 * a) else gI w 174 j) → pX 326 57 [some (.ref 169), some (iv (i : Nat))] [] w1 Q := by
  intro k
  induction k with
  | zero =>
    intro i hi w1 s1 k1 hV
    have e : i = 843 := by omega
    subst e
    refine v326_57 s1 (bdk (by omega)) ⟨fun _ w2 e2 => ?_, fun q => by omega⟩
    rw [gI_cell (k1 169 (by decide)), ha] at e2
    obtain ⟨s2, g2, -, k2⟩ := stI e2 s1 (by omega) (slt_o tbC_169 rfl) ⟨by omega, by omega⟩
    refine h w2 ⟨s2, fun c c1 c2 => by rw [k2 c c1, k1 c c2], fun j hj => by rw [g2, if_neg (by omega), gI_cell (k1 169 (by decide))]⟩ (by rw [g2, if_pos ⟨rfl, rfl⟩]; rfl) (fun j hj => by rw [g2, if_neg (by omega)]; exact hV j hj)
  | succ k ih =>
    intro i hi w1 s1 k1 hV
    have hM1 : MR w1 m := hM.cell (k1 170 (by decide))
    refine v326_57 s1 (bdk (by omega)) ⟨fun q => by omega, fun _ => ?_⟩
    rw [gI_cell (k1 169 (by decide)), ha, Int.toNat_natCast, hM1.2 i (by omega)]
    refine ⟨⟨by omega, by omega⟩, ⟨by omega, by omega⟩, fun w3 e3 => ?_⟩
    rw [show (843 * ((a : Nat) : Int) + (i : Int)).toNat = 843 * a + i from by omega] at e3
    obtain ⟨s3, g3, -, k3⟩ := stI e3 s1 (by omega) (slt_a tbC_174) (by rw [← hM1.2 i (by omega)]; exact bd_gI _ _ _)
    refine ih (i + 1) (by omega) w3 s3 (fun c hc => by rw [k3 c hc, k1 c hc]) (fun j hj => ?_)
    rw [g3]
    by_cases q : j = 843 * a + i
    · rw [if_pos ⟨rfl, q⟩, if_pos (by omega), show j - 843 * a = i from by omega]
    · rw [if_neg (fun z => q z.2), hV j hj]
      by_cases q2 : 843 * a ≤ j ∧ j < 843 * a + i
      · rw [if_pos q2, if_pos (by omega)]
      · rw [if_neg q2, if_neg (by omega)]
theorem l326_21 {w : PW} {Q : PO → PW → Prop}  (hs : Sh w) (ha : gI w 169 6 = 7) (h : ∀ w2, Sh w2 → (∀ c, c ≠ 174 → w2.2.2 c = w.2.2 c) → (∀ j, j < 5901 → gI w2 174 j = gI w 174 (j + 843)) → pX 326 57 [some (.ref 169), some (iv 0)] [] w2 Q) : ∀ k i : Nat, i + k = 5901 → ∀ w1, Sh w1 → (∀ c, c ≠ 174 → w1.2.2 c = w.2.2 c) → (∀ j, j < 6744 → gI w1 174 j = if j < i then gI w 174 (j + 843) else gI w 174 j) → pX 326 21 [some (.ref 169), some (iv (i : Nat))] [] w1 Q := by
  intro k
  induction k with
  | zero =>
    intro i hi w1 s1 k1 hV
    refine v326_21 s1 (bdk (by omega)) ?_
    rw [gI_cell (k1 169 (by decide)), ha]
    refine ⟨by decide, fun _ => h w1 s1 k1 (fun j hj => ?_), fun q => by omega⟩
    rw [hV j (by omega), if_pos (by omega)]
  | succ k ih =>
    intro i hi w1 s1 k1 hV
    refine v326_21 s1 (bdk (by omega)) ?_
    rw [gI_cell (k1 169 (by decide)), ha]
    refine ⟨by decide, fun q => by omega, fun _ => ⟨⟨by omega, by omega⟩, ⟨by omega, by omega⟩, fun w2 e2 => ?_⟩⟩
    rw [Int.toNat_natCast, show ((i : Int) + 843).toNat = i + 843 from by omega] at e2
    obtain ⟨s2, g2, -, k2⟩ := stI e2 s1 (by omega) (slt_a tbC_174) (bd_gI _ _ _)
    refine ih (i + 1) (by omega) w2 s2 (fun c hc => by rw [k2 c hc, k1 c hc]) (fun j hj => ?_)
    rw [g2]
    by_cases q : j = i
    · rw [if_pos ⟨rfl, q⟩, if_pos (by omega), hV (i + 843) (by omega), if_neg (by omega), q]
    · rw [if_neg (fun z => q z.2), hV j hj]
      by_cases q2 : j < i
      · rw [if_pos q2, if_pos (by omega)]
      · rw [if_neg q2, if_neg (by omega)]
theorem c326 (hs : Sh w) (hM : MR w m) (hH : HM w H n) (h : ∀ w2, MKF w w2 → HM w2 (hPush H n m) (hLen n) → Q (.inl none) w2) : pC 326 [.ref 169] w Q := by
  obtain ⟨h6, h8, hV⟩ := hH
  refine e326 hs ?_
  rw [h6]
  refine ⟨fun q => ?_, fun q w2 e2 => ?_⟩
  · refine l326_57 hs hM h6 (by omega) (fun w3 F3 g3 hW => h w3 F3 ⟨?_, ?_, fun j k hj hk => ?_⟩) _ 0 (Nat.zero_add _) w hs (fun _ _ => rfl) (fun j hj => by rw [if_neg (by omega)])
    · rw [g3]; unfold hLen; rw [if_neg (by omega)]
    · unfold hLen; rw [if_neg (by omega)]; omega
    · have hj2 : j < n + 1 := by unfold hLen at hj; rw [if_neg (by omega)] at hj; exact hj
      show gI w3 174 (843 * j + k) = (if n = 8 then (if j = 7 then m else H (j + 1)) else if j = n then m else H j) k
      rw [hW _ (by omega), if_neg (show ¬ n = 8 by omega)]
      by_cases q2 : j = n
      · rw [if_pos q2, if_pos (by omega), show 843 * j + k - 843 * n = k from by omega]
      · rw [if_neg q2, if_neg (by omega)]
        exact hV j k (by omega) hk
  · have hn : n = 8 := by omega
    subst hn
    obtain ⟨s2, g2, -, k2⟩ := stI e2 hs (by omega) (slt_o tbC_169 rfl) (by decide)
    have hg6 : gI w2 169 6 = 7 := by rw [g2, if_pos ⟨rfl, rfl⟩]; rfl
    refine l326_21 s2 hg6 (fun w3 s3 k3 hV3 => ?_) _ 0 (Nat.zero_add _) w2 s2 (fun _ _ => rfl) (fun j hj => by rw [if_neg (by omega)])
    have hM3 : MR w3 m := (hM.cell (k2 170 (by decide))).cell (k3 170 (by decide))
    refine l326_57 (a := 7) s3 hM3 (by rw [gI_cell (k3 169 (by decide)), hg6]; rfl) (by decide) (fun w4 F4 g4 hW => h w4 ⟨F4.1, fun c c1 c2 => by rw [F4.2.1 c c1 c2, k3 c c2, k2 c c1], fun j hj => by rw [F4.2.2 j hj, gI_cell (k3 169 (by decide)), g2, if_neg (by omega)]⟩ ⟨?_, ?_, fun j k hj hk => ?_⟩) _ 0 (Nat.zero_add _) w3 s3 (fun _ _ => rfl) (fun j hj => by rw [if_neg (by omega)])
    · rw [g4]; rfl
    · exact Nat.le_refl 8
    · have hj2 : j < 8 := hj
      show gI w4 174 (843 * j + k) = (if j = 7 then m else H (j + 1)) k
      rw [hW _ (by omega)]
      by_cases q2 : j = 7
      · rw [if_pos q2, if_pos (by omega), show 843 * j + k - 843 * 7 = k from by omega]
      · rw [if_neg q2, if_neg (by omega), hV3 _ (by omega), g2, if_neg (by omega), show 843 * j + k + 843 = 843 * (j + 1) + k from by omega]
        exact hV (j + 1) k (by omega) hk
end MHI
