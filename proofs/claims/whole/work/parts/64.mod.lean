/-! THE MODEL: its row; pins -/
/-! 247: PinBarrelModel.pinsOf(I)I -/
theorem b247 : mB 247 = cX9_pinsOf := rfl
theorem r247 : mR 247 = (some .int) := rfl
theorem p247 (a b : Nat) : phi 247 a ≤ phi 247 b := Nat.le_refl 0
theorem d247_0 : decode cX9_pinsOf 0 = .ok (.iconst 0, 1) := by decide +kernel
theorem d247_1 : decode cX9_pinsOf 1 = .ok (.istore_n 2, 1) := by decide +kernel
theorem d247_2 : decode cX9_pinsOf 2 = .ok (.iconst 0, 1) := by decide +kernel
theorem d247_3 : decode cX9_pinsOf 3 = .ok (.istore_n 3, 1) := by decide +kernel
theorem d247_4 : decode cX9_pinsOf 4 = .ok (.iload_n 3, 1) := by decide +kernel
theorem d247_5 : decode cX9_pinsOf 5 = .ok (.aload_n 0, 1) := by decide +kernel
theorem d247_6 : decode cX9_pinsOf 6 = .ok (.getfield 9, 3) := by decide +kernel
theorem d247_9 : decode cX9_pinsOf 9 = .ok (.iconst 0, 1) := by decide +kernel
theorem d247_10 : decode cX9_pinsOf 10 = .ok (.iaload, 1) := by decide +kernel
theorem d247_11 : decode cX9_pinsOf 11 = .ok (.if_icmp .ge 25, 3) := by decide +kernel
theorem d247_14 : decode cX9_pinsOf 14 = .ok (.iload_n 2, 1) := by decide +kernel
theorem d247_15 : decode cX9_pinsOf 15 = .ok (.aload_n 0, 1) := by decide +kernel
theorem d247_16 : decode cX9_pinsOf 16 = .ok (.getfield 9, 3) := by decide +kernel
theorem d247_19 : decode cX9_pinsOf 19 = .ok (.iload_n 1, 1) := by decide +kernel
theorem d247_20 : decode cX9_pinsOf 20 = .ok (.iload_n 3, 1) := by decide +kernel
theorem d247_21 : decode cX9_pinsOf 21 = .ok (.invokestatic 213, 3) := by decide +kernel
theorem d247_24 : decode cX9_pinsOf 24 = .ok (.iaload, 1) := by decide +kernel
theorem d247_25 : decode cX9_pinsOf 25 = .ok (.invokestatic 222, 3) := by decide +kernel
theorem d247_28 : decode cX9_pinsOf 28 = .ok (.iadd, 1) := by decide +kernel
theorem d247_29 : decode cX9_pinsOf 29 = .ok (.istore_n 2, 1) := by decide +kernel
theorem d247_30 : decode cX9_pinsOf 30 = .ok (.iinc 3 1, 3) := by decide +kernel
theorem d247_33 : decode cX9_pinsOf 33 = .ok (.goto (-29), 3) := by decide +kernel
theorem d247_36 : decode cX9_pinsOf 36 = .ok (.iload_n 2, 1) := by decide +kernel
theorem d247_37 : decode cX9_pinsOf 37 = .ok (.ireturn, 1) := by decide +kernel
theorem v247_0 {w : PW} {Q : PO → PW → Prop} {x1 : Int} (hs : Sh w) (hx1 : bd x1) (h : pX 247 4 [some (.ref 169), some (iv x1), some (iv 0), some (iv 0)] [] w Q) : pX 247 0 [some (.ref 169), some (iv x1), none, none] [] w Q :=
  w_f b247 d247_0 rfl rfl rfl <| w_f b247 d247_1 rfl rfl rfl <| w_f b247 d247_2 rfl rfl rfl <| w_f b247 d247_3 rfl rfl rfl <| h
theorem e247 {w : PW} {Q : PO → PW → Prop} {x1 : Int} (hs : Sh w) (hx1 : bd x1) (h : pX 247 4 [some (.ref 169), some (iv x1), some (iv 0), some (iv 0)] [] w Q) : pC 247 [.ref 169, iv x1] w Q :=
  (pC_in (Nat.le_of_ble_eq_true rfl) rfl Q).mpr (v247_0 hs hx1 h)
theorem v247_4 {w : PW} {Q : PO → PW → Prop} {x1 : Int} {x2 : Int} {x3 : Int} (hs : Sh w) (hx1 : bd x1) (hx2 : bd x2) (hx3 : bd x3) (h : ((gI w 170 0) ≤ x3 → Q (.inl (some (iv x2))) w) ∧ (x3 < (gI w 170 0) → (0 ≤ ((251 + 64 * x1) + x3) ∧ ((251 + 64 * x1) + x3) < 843) ∧ pX 247 4 [some (.ref 169), some (iv x1), some (iv (x2 + ((cnt (tI (gI w 170 ((251 + 64 * x1) + x3).toNat)) 12 : Int)))), some (iv (x3 + 1))] [] w Q)) : pX 247 4 [some (.ref 169), some (iv x1), some (iv x2), some (iv x3)] [] w Q :=
  w_f b247 d247_4 rfl rfl rfl <| w_f b247 d247_5 rfl rfl rfl <| w_gr b247 d247_6 rfl rfl hs (tlt 169 rfl) tbC_169 rfl (by decide) <| w_f b247 d247_9 rfl rfl rfl <| w_ial b247 d247_10 rfl hs (tlt 170 rfl) tbC_170 (bdix (n := 843) ⟨by decide, by decide⟩ rfl) ⟨by decide, by decide⟩ <| w_icge b247 d247_11 rfl rfl (p247 _ _) hx3 (bd_gI _ _ _) (fun c1 => w_f b247 d247_36 rfl rfl rfl <| w_ri b247 d247_37 r247 (h.1 c1)) (fun c1 => w_f b247 d247_14 rfl rfl rfl <| w_f b247 d247_15 rfl rfl rfl <| w_gr b247 d247_16 rfl rfl hs (tlt 169 rfl) tbC_169 rfl (by decide) <| w_f b247 d247_19 rfl rfl rfl <| w_f b247 d247_20 rfl rfl rfl <| w_cc b247 d247_21 rfl (pcl_s1 (n := 2) rfl rfl rfl (by decide +kernel) rfl rfl) rfl <| c236 hs hx1 hx3 <| w_ial b247 d247_24 rfl hs (tlt 170 rfl) tbC_170 (bdix (n := 843) (h.2 c1).1 rfl) (h.2 c1).1 <| w_cc b247 d247_25 rfl (pcl_s1 (n := 1) rfl rfl rfl (by decide +kernel) rfl rfl) rfl <| c246 hs (bd_gI _ _ _) <| w_f b247 d247_28 rfl (pf_iadd x2 ((cnt (tI (gI w 170 ((251 + 64 * x1) + x3).toNat)) 12 : Int))) rfl <| w_f b247 d247_29 rfl rfl rfl <| w_f b247 d247_30 rfl (pf_iinc rfl rfl) rfl <| w_j b247 d247_33 rfl (p247 _ _) <| (h.2 c1).2)
/-! 248: PinBarrelModel.allPins()I -/
theorem b248 : mB 248 = cX9_allPins := rfl
theorem r248 : mR 248 = (some .int) := rfl
theorem p248 (a b : Nat) : phi 248 a ≤ phi 248 b := Nat.le_refl 0
theorem d248_0 : decode cX9_allPins 0 = .ok (.iconst 0, 1) := by decide +kernel
theorem d248_1 : decode cX9_allPins 1 = .ok (.istore_n 1, 1) := by decide +kernel
theorem d248_2 : decode cX9_allPins 2 = .ok (.iconst 0, 1) := by decide +kernel
theorem d248_3 : decode cX9_allPins 3 = .ok (.istore_n 2, 1) := by decide +kernel
theorem d248_4 : decode cX9_allPins 4 = .ok (.iload_n 2, 1) := by decide +kernel
theorem d248_5 : decode cX9_allPins 5 = .ok (.aload_n 0, 1) := by decide +kernel
theorem d248_6 : decode cX9_allPins 6 = .ok (.getfield 9, 3) := by decide +kernel
theorem d248_9 : decode cX9_allPins 9 = .ok (.iconst 1, 1) := by decide +kernel
theorem d248_10 : decode cX9_allPins 10 = .ok (.iaload, 1) := by decide +kernel
theorem d248_11 : decode cX9_allPins 11 = .ok (.if_icmp .ge 17, 3) := by decide +kernel
theorem d248_14 : decode cX9_allPins 14 = .ok (.iload_n 1, 1) := by decide +kernel
theorem d248_15 : decode cX9_allPins 15 = .ok (.aload_n 0, 1) := by decide +kernel
theorem d248_16 : decode cX9_allPins 16 = .ok (.iload_n 2, 1) := by decide +kernel
theorem d248_17 : decode cX9_allPins 17 = .ok (.invokevirtual 225, 3) := by decide +kernel
theorem d248_20 : decode cX9_allPins 20 = .ok (.iadd, 1) := by decide +kernel
theorem d248_21 : decode cX9_allPins 21 = .ok (.istore_n 1, 1) := by decide +kernel
theorem d248_22 : decode cX9_allPins 22 = .ok (.iinc 2 1, 3) := by decide +kernel
theorem d248_25 : decode cX9_allPins 25 = .ok (.goto (-21), 3) := by decide +kernel
theorem d248_28 : decode cX9_allPins 28 = .ok (.iload_n 1, 1) := by decide +kernel
theorem d248_29 : decode cX9_allPins 29 = .ok (.ireturn, 1) := by decide +kernel
theorem v248_0 {w : PW} {Q : PO → PW → Prop}  (hs : Sh w)  (h : pX 248 4 [some (.ref 169), some (iv 0), some (iv 0)] [] w Q) : pX 248 0 [some (.ref 169), none, none] [] w Q :=
  w_f b248 d248_0 rfl rfl rfl <| w_f b248 d248_1 rfl rfl rfl <| w_f b248 d248_2 rfl rfl rfl <| w_f b248 d248_3 rfl rfl rfl <| h
theorem e248 {w : PW} {Q : PO → PW → Prop}  (hs : Sh w)  (h : pX 248 4 [some (.ref 169), some (iv 0), some (iv 0)] [] w Q) : pC 248 [.ref 169] w Q :=
  (pC_in (Nat.le_of_ble_eq_true rfl) rfl Q).mpr (v248_0 hs  h)
theorem v248_4 {w : PW} {Q : PO → PW → Prop} {x1 : Int} {x2 : Int} (hs : Sh w) (hx1 : bd x1) (hx2 : bd x2) (h : ((gI w 170 1) ≤ x2 → Q (.inl (some (iv x1))) w) ∧ (x2 < (gI w 170 1) → pC 247 [.ref 169, iv x2] w (kI fun u3 w2 => Sh w2 ∧ pX 248 4 [some (.ref 169), some (iv (x1 + u3)), some (iv (x2 + 1))] [] w2 Q))) : pX 248 4 [some (.ref 169), some (iv x1), some (iv x2)] [] w Q :=
  w_f b248 d248_4 rfl rfl rfl <| w_f b248 d248_5 rfl rfl rfl <| w_gr b248 d248_6 rfl rfl hs (tlt 169 rfl) tbC_169 rfl (by decide) <| w_f b248 d248_9 rfl rfl rfl <| w_ial b248 d248_10 rfl hs (tlt 170 rfl) tbC_170 (bdix (n := 843) ⟨by decide, by decide⟩ rfl) ⟨by decide, by decide⟩ <| w_icge b248 d248_11 rfl rfl (p248 _ _) hx2 (bd_gI _ _ _) (fun c1 => w_f b248 d248_28 rfl rfl rfl <| w_ri b248 d248_29 r248 (h.1 c1)) (fun c1 => w_f b248 d248_14 rfl rfl rfl <| w_f b248 d248_15 rfl rfl rfl <| w_f b248 d248_16 rfl rfl rfl <| w_c b248 d248_17 rfl (pcl_v (n := 1) rfl rfl rfl (by decide +kernel) (sh_isOb hs (tlt 169 rfl) tbC_169) rfl rfl) rfl _ (hK_I fun u3 w2 hbu3 hkw2 => w_f b248 d248_20 rfl (pf_iadd x1 _) rfl <| w_f b248 d248_21 rfl rfl rfl <| w_f b248 d248_22 rfl (pf_iinc rfl rfl) rfl <| w_j b248 d248_25 rfl (p248 _ _) <| hkw2.2) (h.2 c1))
def MR (w : PW) (m : Row) : Prop := RowOK m ∧ ∀ k, k < 843 → gI w 170 k = m k
theorem MR.ok {w : PW} {m : Row} (h : MR w m) : RowOK m := h.1
theorem MR.g {w : PW} {m : Row} (h : MR w m) {k : Nat} (hk : Nat.blt k 843 = true) : gI w 170 k = m k := h.2 k (Nat.le_of_ble_eq_true hk)
theorem MR.i {w : PW} {m : Row} (h : MR w m) {x : Int} {n : Nat} (e : x = (n : Nat)) (hn : n < 843) : gI w 170 x.toNat = m n := by rw [e, Int.toNat_natCast]; exact h.2 n hn
theorem MR.cell {w w2 : PW} {m : Row} (h : MR w m) (hk : w2.2.2 170 = w.2.2 170) : MR w2 m := ⟨h.1, fun k hk2 => by rw [gI_cell hk]; exact h.2 k hk2⟩
def moV : PO → PO
  | .inl o => .inl o
  | .inr _ => .inl (some (iv 0))
def moE : PO → Int
  | .inl _ => 0
  | .inr e => (e : Nat)
/-- what a question of the model leaves alone -/
def MqF (w w2 : PW) : Prop := Sh w2 ∧ (∀ c, ¬ (169 ≤ c ∧ c ≤ 171) → ¬ (176 ≤ c ∧ c ≤ 178) → w2.2.2 c = w.2.2 c) ∧ (∀ k, k < 843 → gI w2 170 k = gI w 170 k) ∧ (gI w2 169 6 = gI w 169 6 ∧ gI w2 169 8 = gI w 169 8 ∧ gI w2 169 12 = gI w 169 12 ∧ gI w2 169 15 = gI w 169 15 ∧ gI w2 169 30 = gI w 169 30)
theorem MqF.rf {w : PW} (hs : Sh w) : MqF w w := ⟨hs, fun _ _ _ => rfl, fun _ _ => rfl, rfl, rfl, rfl, rfl, rfl⟩
theorem MqF.tr {w w1 w2 : PW} (h1 : MqF w w1) (h2 : MqF w1 w2) : MqF w w2 := by
  obtain ⟨-, a1, a2, a3, a4, a5, a6, a7⟩ := h1
  obtain ⟨b0, b1, b2, b3, b4, b5, b6, b7⟩ := h2
  exact ⟨b0, fun c hc hc2 => (b1 c hc hc2).trans (a1 c hc hc2), fun k hk => (b2 k hk).trans (a2 k hk), b3.trans a3, b4.trans a4, b5.trans a5, b6.trans a6, b7.trans a7⟩
theorem MqF.mr {w w2 : PW} {m : Row} (h : MqF w w2) (hM : MR w m) : MR w2 m := ⟨hM.1, fun k hk => (h.2.2.1 k hk).trans (hM.2 k hk)⟩
/-- the same, and `thrown` stays -/
def MF (w w2 : PW) : Prop := Sh w2 ∧ MqF w w2 ∧ gI w2 169 0 = gI w 169 0 ∧ w2.2.2 171 = w.2.2 171
theorem MF.rf {w : PW} (hs : Sh w) : MF w w := ⟨hs, MqF.rf hs, rfl, rfl⟩
theorem MF.tr {w w1 w2 : PW} (h1 : MF w w1) (h2 : MF w1 w2) : MF w w2 := ⟨h2.1, h1.2.1.tr h2.2.1, h2.2.2.1.trans h1.2.2.1, h2.2.2.2.trans h1.2.2.2⟩
theorem MF.mr {w w2 : PW} {m : Row} (h : MF w w2) (hM : MR w m) : MR w2 m := h.2.1.mr hM
/-- a number of the model's that is not kept -/
theorem MqF.set {w w2 : PW} {k : Nat} {z : Int} (hs : Sh w) (e : w2 = sI w 169 k z) (hl : slt (tb 169) k) (hz : bd z) (h1 : k ≠ 6 ∧ k ≠ 8 ∧ k ≠ 12 ∧ k ≠ 15 ∧ k ≠ 30) : MqF w w2 ∧ gI w2 169 k = z ∧ w2.2.2 170 = w.2.2 170 := by
  obtain ⟨s1, g1, -, k1⟩ := stI e hs (by omega) hl hz
  exact ⟨⟨s1, fun c hc _ => k1 c (by omega), fun i _ => by rw [gI_cell (k1 170 (by omega))], by rw [g1, if_neg (by omega)], by rw [g1, if_neg (by omega)], by rw [g1, if_neg (by omega)], by rw [g1, if_neg (by omega)], by rw [g1, if_neg (by omega)]⟩, by rw [g1, if_pos ⟨rfl, rfl⟩], k1 170 (by omega)⟩
theorem MF.set {w w2 : PW} {k : Nat} {z : Int} (hs : Sh w) (e : w2 = sI w 169 k z) (hl : slt (tb 169) k) (hz : bd z) (h1 : k ≠ 6 ∧ k ≠ 8 ∧ k ≠ 12 ∧ k ≠ 15 ∧ k ≠ 30 ∧ k ≠ 0) : MF w w2 ∧ gI w2 169 k = z ∧ w2.2.2 170 = w.2.2 170 := by
  obtain ⟨h2, h3, h4⟩ := MqF.set hs e hl hz ⟨h1.1, h1.2.1, h1.2.2.1, h1.2.2.2.1, h1.2.2.2.2.1⟩
  obtain ⟨s1, g1, -, k1⟩ := stI e hs (by omega) hl hz
  exact ⟨⟨s1, h2, by rw [g1, if_neg (by omega)], k1 171 (by omega)⟩, h3, h4⟩
