/-! THE SEARCH: seek of the class -/
theorem TrS.congr {w : PW} {m : Row} {u d : Nat} {ch ch' : Nat → Int} (h : TrS w m u ch d) (he : ∀ k, k < d → ch' k = ch k) : TrS w m u ch' d := by
  intro j s hj hs
  rw [h j s hj hs]
  have : sLaid m u ch' d j s = sLaid m u ch d j s := by
    unfold sLaid
    rw [cnt_congr (fun k hk => by rw [he k hk])]
  rw [this]
theorem TrS.cell {w w' : PW} {m : Row} {u d : Nat} {ch : Nat → Int} (h : TrS w m u ch d) (he : w'.2.2 142 = w.2.2 142) : TrS w' m u ch d := by
  intro j s hj hs
  rw [gL_cell he]
  exact h j s hj hs
theorem ChOK.congr {m : Row} {u : Int} {d : Nat} {ch ch' : Nat → Int} (h : ChOK m u ch d) (he : ∀ k, k < d → ch' k = ch k) : ChOK m u ch' d :=
  ⟨fun k hk => by rw [he k hk]; exact h.1 k hk, fun i j hij hj e => h.2 i j hij hj (by rw [he i (by omega), he j hj] at e; exact e)⟩
theorem ChOK.less {m : Row} {u : Int} {d : Nat} {ch : Nat → Int} (h : ChOK m u ch (d + 1)) : ChOK m u ch d := ⟨fun k hk => h.1 k (by omega), fun i j hij hj e => h.2 i j hij (by omega) e⟩
def SkI (w : PW) (m : Row) (u : Nat) (σ : SS) : Prop := gI w 139 0 = -2 ∧ gI w 139 1 = (σ.2.1 : Int) ∧ gI w 139 2 = (ordR m u : Nat) ∧ (∀ i, i < ordR m u → gI w 140 i = (ordN m u i : Nat)) ∧ (∀ i, i ≤ σ.1 → i < ordR m u → gI w 141 i = σ.2.2 i) ∧ TrS w m u σ.2.2 σ.1 ∧ ChOK m u σ.2.2 σ.1 ∧ σ.1 ≤ ordR m u ∧ (σ.1 < ordR m u → -1 ≤ σ.2.2 σ.1 ∧ σ.2.2 σ.1 < m 4) ∧ σ.2.1 ≤ 4000
def SkF (w : PW) (m : Row) (u : Nat) (r : Int × SS) : Prop := gI w 139 0 = r.1 ∧ (r.1 ≠ -2 → gI w 139 1 = (r.2.2.1 : Int)) ∧ gI w 139 2 = (ordR m u : Nat) ∧ (∀ i, i < ordR m u → gI w 140 i = (ordN m u i : Nat)) ∧ (r.1 = 1 → (∀ i, i < ordR m u → gI w 141 i = r.2.2.2 i) ∧ TrS w m u r.2.2.2 (ordR m u) ∧ ChOK m u r.2.2.2 (ordR m u))
/-! 124: PinBarrel$Search.seek(LPinBarrel$Box;II)V -/
theorem b124 : mB 124 = cX6_seek := rfl
theorem r124 : mR 124 = none := rfl
theorem p124 (a b : Nat) : phi 124 a ≤ phi 124 b := Nat.le_refl 0
theorem d124_0 : decode cX6_seek 0 = .ok (.aload_n 0, 1) := by decide +kernel
theorem d124_1 : decode cX6_seek 1 = .ok (.aload_n 1, 1) := by decide +kernel
theorem d124_2 : decode cX6_seek 2 = .ok (.iload_n 2, 1) := by decide +kernel
theorem d124_3 : decode cX6_seek 3 = .ok (.invokevirtual 32, 3) := by decide +kernel
theorem d124_6 : decode cX6_seek 6 = .ok (.iconst 0, 1) := by decide +kernel
theorem d124_7 : decode cX6_seek 7 = .ok (.istore 4, 2) := by decide +kernel
theorem d124_9 : decode cX6_seek 9 = .ok (.aload_n 0, 1) := by decide +kernel
theorem d124_10 : decode cX6_seek 10 = .ok (.getfield 25, 3) := by decide +kernel
theorem d124_13 : decode cX6_seek 13 = .ok (.iconst 0, 1) := by decide +kernel
theorem d124_14 : decode cX6_seek 14 = .ok (.iconst (-1), 1) := by decide +kernel
theorem d124_15 : decode cX6_seek 15 = .ok (.iastore, 1) := by decide +kernel
theorem d124_16 : decode cX6_seek 16 = .ok (.iconst 0, 1) := by decide +kernel
theorem d124_17 : decode cX6_seek 17 = .ok (.istore 5, 2) := by decide +kernel
theorem d124_19 : decode cX6_seek 19 = .ok (.iload 5, 2) := by decide +kernel
theorem d124_21 : decode cX6_seek 21 = .ok (.sipush 12000, 3) := by decide +kernel
theorem d124_24 : decode cX6_seek 24 = .ok (.if_icmp .ge 170, 3) := by decide +kernel
theorem d124_27 : decode cX6_seek 27 = .ok (.iload 4, 2) := by decide +kernel
theorem d124_29 : decode cX6_seek 29 = .ok (.aload_n 0, 1) := by decide +kernel
theorem d124_30 : decode cX6_seek 30 = .ok (.getfield 18, 3) := by decide +kernel
theorem d124_33 : decode cX6_seek 33 = .ok (.if_icmp .lt 9, 3) := by decide +kernel
theorem d124_36 : decode cX6_seek 36 = .ok (.aload_n 0, 1) := by decide +kernel
theorem d124_37 : decode cX6_seek 37 = .ok (.iconst 1, 1) := by decide +kernel
theorem d124_38 : decode cX6_seek 38 = .ok (.putfield 11, 3) := by decide +kernel
theorem d124_41 : decode cX6_seek 41 = .ok (.return_, 1) := by decide +kernel
theorem d124_42 : decode cX6_seek 42 = .ok (.aload_n 0, 1) := by decide +kernel
theorem d124_43 : decode cX6_seek 43 = .ok (.getfield 21, 3) := by decide +kernel
theorem d124_46 : decode cX6_seek 46 = .ok (.iload 4, 2) := by decide +kernel
theorem d124_48 : decode cX6_seek 48 = .ok (.iaload, 1) := by decide +kernel
theorem d124_49 : decode cX6_seek 49 = .ok (.istore 6, 2) := by decide +kernel
theorem d124_51 : decode cX6_seek 51 = .ok (.aload_n 0, 1) := by decide +kernel
theorem d124_52 : decode cX6_seek 52 = .ok (.getfield 25, 3) := by decide +kernel
theorem d124_55 : decode cX6_seek 55 = .ok (.iload 4, 2) := by decide +kernel
theorem d124_57 : decode cX6_seek 57 = .ok (.iaload, 1) := by decide +kernel
theorem d124_58 : decode cX6_seek 58 = .ok (.aload_n 1, 1) := by decide +kernel
theorem d124_59 : decode cX6_seek 59 = .ok (.aload_n 1, 1) := by decide +kernel
theorem d124_60 : decode cX6_seek 60 = .ok (.getfield 36, 3) := by decide +kernel
theorem d124_63 : decode cX6_seek 63 = .ok (.getfield 42, 3) := by decide +kernel
theorem d124_66 : decode cX6_seek 66 = .ok (.iload 6, 2) := by decide +kernel
theorem d124_68 : decode cX6_seek 68 = .ok (.iaload, 1) := by decide +kernel
theorem d124_69 : decode cX6_seek 69 = .ok (.iload_n 3, 1) := by decide +kernel
theorem d124_70 : decode cX6_seek 70 = .ok (.invokestatic 47, 3) := by decide +kernel
theorem d124_73 : decode cX6_seek 73 = .ok (.istore 7, 2) := by decide +kernel
theorem d124_75 : decode cX6_seek 75 = .ok (.iload 7, 2) := by decide +kernel
theorem d124_77 : decode cX6_seek 77 = .ok (.iconst (-1), 1) := by decide +kernel
theorem d124_78 : decode cX6_seek 78 = .ok (.if_icmp .ne 39, 3) := by decide +kernel
theorem d124_81 : decode cX6_seek 81 = .ok (.iload 4, 2) := by decide +kernel
theorem d124_83 : decode cX6_seek 83 = .ok (.ifCond .ne 9, 3) := by decide +kernel
theorem d124_86 : decode cX6_seek 86 = .ok (.aload_n 0, 1) := by decide +kernel
theorem d124_87 : decode cX6_seek 87 = .ok (.iconst 0, 1) := by decide +kernel
theorem d124_88 : decode cX6_seek 88 = .ok (.putfield 11, 3) := by decide +kernel
theorem d124_91 : decode cX6_seek 91 = .ok (.return_, 1) := by decide +kernel
theorem d124_92 : decode cX6_seek 92 = .ok (.iinc 4 (-1), 3) := by decide +kernel
theorem d124_95 : decode cX6_seek 95 = .ok (.aload_n 0, 1) := by decide +kernel
theorem d124_96 : decode cX6_seek 96 = .ok (.aload_n 1, 1) := by decide +kernel
theorem d124_97 : decode cX6_seek 97 = .ok (.aload_n 0, 1) := by decide +kernel
theorem d124_98 : decode cX6_seek 98 = .ok (.getfield 21, 3) := by decide +kernel
theorem d124_101 : decode cX6_seek 101 = .ok (.iload 4, 2) := by decide +kernel
theorem d124_103 : decode cX6_seek 103 = .ok (.iaload, 1) := by decide +kernel
theorem d124_104 : decode cX6_seek 104 = .ok (.aload_n 0, 1) := by decide +kernel
theorem d124_105 : decode cX6_seek 105 = .ok (.getfield 25, 3) := by decide +kernel
theorem d124_108 : decode cX6_seek 108 = .ok (.iload 4, 2) := by decide +kernel
theorem d124_110 : decode cX6_seek 110 = .ok (.iaload, 1) := by decide +kernel
theorem d124_111 : decode cX6_seek 111 = .ok (.invokevirtual 51, 3) := by decide +kernel
theorem d124_114 : decode cX6_seek 114 = .ok (.goto 74, 3) := by decide +kernel
theorem d124_117 : decode cX6_seek 117 = .ok (.aload_n 0, 1) := by decide +kernel
theorem d124_118 : decode cX6_seek 118 = .ok (.getfield 15, 3) := by decide +kernel
theorem d124_121 : decode cX6_seek 121 = .ok (.sipush 4000, 3) := by decide +kernel
theorem d124_124 : decode cX6_seek 124 = .ok (.if_icmp .lt 4, 3) := by decide +kernel
theorem d124_127 : decode cX6_seek 127 = .ok (.return_, 1) := by decide +kernel
theorem d124_128 : decode cX6_seek 128 = .ok (.aload_n 0, 1) := by decide +kernel
theorem d124_129 : decode cX6_seek 129 = .ok (.dup, 1) := by decide +kernel
theorem d124_130 : decode cX6_seek 130 = .ok (.getfield 15, 3) := by decide +kernel
theorem d124_133 : decode cX6_seek 133 = .ok (.iconst 1, 1) := by decide +kernel
theorem d124_134 : decode cX6_seek 134 = .ok (.iadd, 1) := by decide +kernel
theorem d124_135 : decode cX6_seek 135 = .ok (.putfield 15, 3) := by decide +kernel
theorem d124_138 : decode cX6_seek 138 = .ok (.aload_n 0, 1) := by decide +kernel
theorem d124_139 : decode cX6_seek 139 = .ok (.getfield 25, 3) := by decide +kernel
theorem d124_142 : decode cX6_seek 142 = .ok (.iload 4, 2) := by decide +kernel
theorem d124_144 : decode cX6_seek 144 = .ok (.iload 7, 2) := by decide +kernel
theorem d124_146 : decode cX6_seek 146 = .ok (.iastore, 1) := by decide +kernel
theorem d124_147 : decode cX6_seek 147 = .ok (.aload_n 0, 1) := by decide +kernel
theorem d124_148 : decode cX6_seek 148 = .ok (.aload_n 1, 1) := by decide +kernel
theorem d124_149 : decode cX6_seek 149 = .ok (.iload 6, 2) := by decide +kernel
theorem d124_151 : decode cX6_seek 151 = .ok (.iload 7, 2) := by decide +kernel
theorem d124_153 : decode cX6_seek 153 = .ok (.invokevirtual 55, 3) := by decide +kernel
theorem d124_156 : decode cX6_seek 156 = .ok (.ifCond .eq 32, 3) := by decide +kernel
theorem d124_159 : decode cX6_seek 159 = .ok (.aload_n 0, 1) := by decide +kernel
theorem d124_160 : decode cX6_seek 160 = .ok (.aload_n 1, 1) := by decide +kernel
theorem d124_161 : decode cX6_seek 161 = .ok (.iload 6, 2) := by decide +kernel
theorem d124_163 : decode cX6_seek 163 = .ok (.iload 7, 2) := by decide +kernel
theorem d124_165 : decode cX6_seek 165 = .ok (.invokevirtual 59, 3) := by decide +kernel
theorem d124_168 : decode cX6_seek 168 = .ok (.iinc 4 1, 3) := by decide +kernel
theorem d124_171 : decode cX6_seek 171 = .ok (.iload 4, 2) := by decide +kernel
theorem d124_173 : decode cX6_seek 173 = .ok (.aload_n 0, 1) := by decide +kernel
theorem d124_174 : decode cX6_seek 174 = .ok (.getfield 18, 3) := by decide +kernel
theorem d124_177 : decode cX6_seek 177 = .ok (.if_icmp .ge 11, 3) := by decide +kernel
theorem d124_180 : decode cX6_seek 180 = .ok (.aload_n 0, 1) := by decide +kernel
theorem d124_181 : decode cX6_seek 181 = .ok (.getfield 25, 3) := by decide +kernel
theorem d124_184 : decode cX6_seek 184 = .ok (.iload 4, 2) := by decide +kernel
theorem d124_186 : decode cX6_seek 186 = .ok (.iconst (-1), 1) := by decide +kernel
theorem d124_187 : decode cX6_seek 187 = .ok (.iastore, 1) := by decide +kernel
theorem d124_188 : decode cX6_seek 188 = .ok (.iinc 5 1, 3) := by decide +kernel
theorem d124_191 : decode cX6_seek 191 = .ok (.goto (-172), 3) := by decide +kernel
theorem d124_194 : decode cX6_seek 194 = .ok (.return_, 1) := by decide +kernel
theorem v124_0 {w : PW} {Q : PO → PW → Prop} {c : Nat} {x2 : Int} {x3 : Int} (hs : Sh w) (hc : bx c) (hx2 : bd x2) (hx3 : bd x3) (h : pC 118 [.ref 139, .ref c, iv x2] w (kV fun w1 => Sh w1 ∧ ∀ w3 : PW, w3 = sI w1 141 0 ((-1)) → pX 124 19 [some (.ref 139), some (.ref c), some (iv x2), some (iv x3), some (iv 0), some (iv 0), none, none] [] w3 Q)) : pX 124 0 [some (.ref 139), some (.ref c), some (iv x2), some (iv x3), none, none, none, none] [] w Q :=
  w_f b124 d124_0 rfl rfl rfl <| w_f b124 d124_1 rfl rfl rfl <| w_f b124 d124_2 rfl rfl rfl <| w_c b124 d124_3 rfl (pcl_v (n := 2) rfl rfl rfl (by decide +kernel) (sh_isOb hs (tlt 139 rfl) tbC_139) rfl rfl) rfl _ (hK_V fun w1 hkw1 => w_f b124 d124_6 rfl rfl rfl <| w_f b124 d124_7 rfl rfl rfl <| w_f b124 d124_9 rfl rfl rfl <| w_gr b124 d124_10 rfl rfl hkw1.1 (tlt 139 rfl) tbC_139 rfl (by decide) <| w_f b124 d124_13 rfl rfl rfl <| w_f b124 d124_14 rfl rfl rfl <| w_ias b124 d124_15 rfl hkw1.1 (tlt 141 rfl) tbC_141 (bdix (n := 60) ⟨by decide, by decide⟩ rfl) ⟨by decide, by decide⟩ <| w_f b124 d124_16 rfl rfl rfl <| w_f b124 d124_17 rfl rfl rfl <| (hkw1.2 _ rfl)) h
theorem e124 {w : PW} {Q : PO → PW → Prop} {c : Nat} {x2 : Int} {x3 : Int} (hs : Sh w) (hc : bx c) (hx2 : bd x2) (hx3 : bd x3) (h : pC 118 [.ref 139, .ref c, iv x2] w (kV fun w1 => Sh w1 ∧ ∀ w3 : PW, w3 = sI w1 141 0 ((-1)) → pX 124 19 [some (.ref 139), some (.ref c), some (iv x2), some (iv x3), some (iv 0), some (iv 0), none, none] [] w3 Q)) : pC 124 [.ref 139, .ref c, iv x2, iv x3] w Q :=
  (pC_in (Nat.le_of_ble_eq_true rfl) rfl Q).mpr (v124_0 hs hc hx2 hx3 h)
theorem v124_19 {w : PW} {Q : PO → PW → Prop} {c : Nat} {x2 : Int} {x3 : Int} {x4 : Int} {x5 : Int} {o6 : Option Value} {o7 : Option Value} (hs : Sh w) (hc : bx c) (hx2 : bd x2) (hx3 : bd x3) (hx4 : bd x4) (hx5 : bd x5) (ho6 : pc2 o6 = false) (ho7 : pc2 o7 = false) (h : (12000 ≤ x5 → Q (.inl none) w) ∧ (x5 < 12000 → (x4 < (gI w 139 2) → (0 ≤ x4 ∧ x4 < 60) ∧ (0 ≤ x4 ∧ x4 < 60) ∧ (0 ≤ (gI w 140 x4.toNat) ∧ (gI w 140 x4.toNat) < 60) ∧ pC 119 [iv (gI w 141 x4.toNat), .ref c, iv (gI w (c + 7) (gI w 140 x4.toNat).toNat), iv x3] w (kI fun u4 w3 => Sh w3 ∧ (u4 ≠ ((-1)) → ((gI w3 139 1) < 4000 → ∀ w7 : PW, w7 = sI w3 139 1 ((gI w3 139 1) + 1) → (0 ≤ x4 ∧ x4 < 60) ∧ ∀ w8 : PW, w8 = sI w7 141 x4.toNat u4 → pC 122 [.ref 139, .ref c, iv (gI w 140 x4.toNat), iv u4] w8 (kI fun u10 w9 => Sh w9 ∧ (u10 = 0 → pX 124 19 [some (.ref 139), some (.ref c), some (iv x2), some (iv x3), some (iv x4), some (iv (x5 + 1)), some (iv (gI w 140 x4.toNat)), some (iv u4)] [] w9 Q) ∧ (u10 ≠ 0 → pC 123 [.ref 139, .ref c, iv (gI w 140 x4.toNat), iv u4] w9 (kV fun w12 => Sh w12 ∧ (bd (x4 + 1)) ∧ ((gI w12 139 2) ≤ (x4 + 1) → pX 124 19 [some (.ref 139), some (.ref c), some (iv x2), some (iv x3), some (iv (x4 + 1)), some (iv (x5 + 1)), some (iv (gI w 140 x4.toNat)), some (iv u4)] [] w12 Q) ∧ ((x4 + 1) < (gI w12 139 2) → (0 ≤ (x4 + 1) ∧ (x4 + 1) < 60) ∧ ∀ w15 : PW, w15 = sI w12 141 (x4 + 1).toNat ((-1)) → pX 124 19 [some (.ref 139), some (.ref c), some (iv x2), some (iv x3), some (iv (x4 + 1)), some (iv (x5 + 1)), some (iv (gI w 140 x4.toNat)), some (iv u4)] [] w15 Q))))) ∧ (4000 ≤ (gI w3 139 1) → Q (.inl none) w3)) ∧ (u4 = ((-1)) → (x4 ≠ 0 → (0 ≤ (x4 + (-1)) ∧ (x4 + (-1)) < 60) ∧ (0 ≤ (x4 + (-1)) ∧ (x4 + (-1)) < 60) ∧ pC 121 [.ref 139, .ref c, iv (gI w3 140 (x4 + (-1)).toNat), iv (gI w3 141 (x4 + (-1)).toNat)] w3 (kV fun w17 => Sh w17 ∧ pX 124 19 [some (.ref 139), some (.ref c), some (iv x2), some (iv x3), some (iv (x4 + (-1))), some (iv (x5 + 1)), some (iv (gI w 140 x4.toNat)), some (iv u4)] [] w17 Q)) ∧ (x4 = 0 → ∀ w19 : PW, w19 = sI w3 139 0 0 → Q (.inl none) w19)))) ∧ ((gI w 139 2) ≤ x4 → ∀ w20 : PW, w20 = sI w 139 0 1 → Q (.inl none) w20))) : pX 124 19 [some (.ref 139), some (.ref c), some (iv x2), some (iv x3), some (iv x4), some (iv x5), o6, o7] [] w Q :=
  w_f b124 d124_19 rfl rfl rfl <| w_f b124 d124_21 rfl rfl rfl <| w_icge b124 d124_24 rfl rfl (p124 _ _) hx5 ⟨by decide, by decide⟩ (fun c1 => w_rv b124 d124_194 r124 (h.1 c1)) (fun c1 => w_f b124 d124_27 rfl rfl rfl <| w_f b124 d124_29 rfl rfl rfl <| w_gi b124 d124_30 rfl rfl hs (tlt 139 rfl) tbC_139 rfl <| w_iclt b124 d124_33 rfl rfl (p124 _ _) hx4 (bd_gI _ _ _) (fun c2 => w_f b124 d124_42 rfl rfl rfl <| w_gr b124 d124_43 rfl rfl hs (tlt 139 rfl) tbC_139 rfl (by decide) <| w_f b124 d124_46 rfl rfl rfl <| w_ial b124 d124_48 rfl hs (tlt 140 rfl) tbC_140 (bdix (n := 60) ((h.2 c1).1 c2).1 rfl) ((h.2 c1).1 c2).1 <| w_f b124 d124_49 rfl rfl rfl <| w_f b124 d124_51 rfl rfl rfl <| w_gr b124 d124_52 rfl rfl hs (tlt 139 rfl) tbC_139 rfl (by decide) <| w_f b124 d124_55 rfl rfl rfl <| w_ial b124 d124_57 rfl hs (tlt 141 rfl) tbC_141 (bdix (n := 60) ((h.2 c1).1 c2).2.1 rfl) ((h.2 c1).1 c2).2.1 <| w_f b124 d124_58 rfl rfl rfl <| w_f b124 d124_59 rfl rfl rfl <| w_gr b124 d124_60 rfl rfl hs (bx00 hc) (tb0 hc) rfl (bxr hc 4 rfl) <| w_gr b124 d124_63 rfl rfl hs (bxk hc 4 rfl) (tb4 hc) rfl (bxr hc 7 rfl) <| w_f b124 d124_66 rfl rfl rfl <| w_ial b124 d124_68 rfl hs (bxk hc 7 rfl) (tb7 hc) (bdix (n := 60) ((h.2 c1).1 c2).2.2.1 rfl) ((h.2 c1).1 c2).2.2.1 <| w_f b124 d124_69 rfl rfl rfl <| w_c b124 d124_70 rfl (pcl_s1 (n := 4) rfl rfl rfl (by decide +kernel) rfl rfl) rfl _ (hK_I fun u4 w3 hbu4 hkw3 => w_f b124 d124_73 rfl rfl rfl <| w_f b124 d124_75 rfl rfl rfl <| w_f b124 d124_77 rfl rfl rfl <| w_icne b124 d124_78 rfl rfl (p124 _ _) hbu4 ⟨by decide, by decide⟩ (fun c5 => w_f b124 d124_117 rfl rfl rfl <| w_gi b124 d124_118 rfl rfl hkw3.1 (tlt 139 rfl) tbC_139 rfl <| w_f b124 d124_121 rfl rfl rfl <| w_iclt b124 d124_124 rfl rfl (p124 _ _) (bd_gI _ _ _) ⟨by decide, by decide⟩ (fun c6 => w_f b124 d124_128 rfl rfl rfl <| w_f b124 d124_129 rfl rfl rfl <| w_gi b124 d124_130 rfl rfl hkw3.1 (tlt 139 rfl) tbC_139 rfl <| w_f b124 d124_133 rfl rfl rfl <| w_f b124 d124_134 rfl (pf_iadd _ 1) rfl <| w_pi b124 d124_135 rfl rfl hkw3.1 (tlt 139 rfl) tbC_139 rfl rfl rfl <| w_f b124 d124_138 rfl rfl rfl <| w_gr b124 d124_139 rfl rfl (Sh_sI hkw3.1 (slt_o tbC_139 rfl)) (tlt 139 rfl) tbC_139 rfl (by decide) <| w_f b124 d124_142 rfl rfl rfl <| w_f b124 d124_144 rfl rfl rfl <| w_ias b124 d124_146 rfl (Sh_sI hkw3.1 (slt_o tbC_139 rfl)) (tlt 141 rfl) tbC_141 (bdix (n := 60) (((hkw3.2.1 c5).1 c6) _ rfl).1 rfl) (((hkw3.2.1 c5).1 c6) _ rfl).1 <| w_f b124 d124_147 rfl rfl rfl <| w_f b124 d124_148 rfl rfl rfl <| w_f b124 d124_149 rfl rfl rfl <| w_f b124 d124_151 rfl rfl rfl <| w_c b124 d124_153 rfl (pcl_v (n := 3) rfl rfl rfl (by decide +kernel) (sh_isOb (Sh_sI (Sh_sI hkw3.1 (slt_o tbC_139 rfl)) (slt_a tbC_141)) (tlt 139 rfl) tbC_139) rfl rfl) rfl _ (hK_I fun u10 w9 hbu10 hkw9 => w_ifeq b124 d124_156 rfl rfl (p124 _ _) hbu10 (fun c11 => w_f b124 d124_188 rfl (pf_iinc rfl rfl) rfl <| w_j b124 d124_191 rfl (p124 _ _) <| (hkw9.2.1 c11)) (fun c11 => w_f b124 d124_159 rfl rfl rfl <| w_f b124 d124_160 rfl rfl rfl <| w_f b124 d124_161 rfl rfl rfl <| w_f b124 d124_163 rfl rfl rfl <| w_c b124 d124_165 rfl (pcl_v (n := 3) rfl rfl rfl (by decide +kernel) (sh_isOb hkw9.1 (tlt 139 rfl) tbC_139) rfl rfl) rfl _ (hK_V fun w12 hkw12 => w_f b124 d124_168 rfl (pf_iinc rfl rfl) rfl <| w_f b124 d124_171 rfl rfl rfl <| w_f b124 d124_173 rfl rfl rfl <| w_gi b124 d124_174 rfl rfl hkw12.1 (tlt 139 rfl) tbC_139 rfl <| w_icge b124 d124_177 rfl rfl (p124 _ _) hkw12.2.1 (bd_gI _ _ _) (fun c14 => w_f b124 d124_188 rfl (pf_iinc rfl rfl) rfl <| w_j b124 d124_191 rfl (p124 _ _) <| (hkw12.2.2.1 c14)) (fun c14 => w_f b124 d124_180 rfl rfl rfl <| w_gr b124 d124_181 rfl rfl hkw12.1 (tlt 139 rfl) tbC_139 rfl (by decide) <| w_f b124 d124_184 rfl rfl rfl <| w_f b124 d124_186 rfl rfl rfl <| w_ias b124 d124_187 rfl hkw12.1 (tlt 141 rfl) tbC_141 (bdix (n := 60) (hkw12.2.2.2 c14).1 rfl) (hkw12.2.2.2 c14).1 <| w_f b124 d124_188 rfl (pf_iinc rfl rfl) rfl <| w_j b124 d124_191 rfl (p124 _ _) <| ((hkw12.2.2.2 c14).2 _ rfl))) (hkw9.2.2 c11))) ((((hkw3.2.1 c5).1 c6) _ rfl).2 _ rfl)) (fun c6 => w_rv b124 d124_127 r124 ((hkw3.2.1 c5).2 c6))) (fun c5 => w_f b124 d124_81 rfl rfl rfl <| w_ifne b124 d124_83 rfl rfl (p124 _ _) hx4 (fun c16 => w_f b124 d124_92 rfl (pf_iinc rfl rfl) rfl <| w_f b124 d124_95 rfl rfl rfl <| w_f b124 d124_96 rfl rfl rfl <| w_f b124 d124_97 rfl rfl rfl <| w_gr b124 d124_98 rfl rfl hkw3.1 (tlt 139 rfl) tbC_139 rfl (by decide) <| w_f b124 d124_101 rfl rfl rfl <| w_ial b124 d124_103 rfl hkw3.1 (tlt 140 rfl) tbC_140 (bdix (n := 60) ((hkw3.2.2 c5).1 c16).1 rfl) ((hkw3.2.2 c5).1 c16).1 <| w_f b124 d124_104 rfl rfl rfl <| w_gr b124 d124_105 rfl rfl hkw3.1 (tlt 139 rfl) tbC_139 rfl (by decide) <| w_f b124 d124_108 rfl rfl rfl <| w_ial b124 d124_110 rfl hkw3.1 (tlt 141 rfl) tbC_141 (bdix (n := 60) ((hkw3.2.2 c5).1 c16).2.1 rfl) ((hkw3.2.2 c5).1 c16).2.1 <| w_c b124 d124_111 rfl (pcl_v (n := 3) rfl rfl rfl (by decide +kernel) (sh_isOb hkw3.1 (tlt 139 rfl) tbC_139) rfl rfl) rfl _ (hK_V fun w17 hkw17 => w_j b124 d124_114 rfl (p124 _ _) <| w_f b124 d124_188 rfl (pf_iinc rfl rfl) rfl <| w_j b124 d124_191 rfl (p124 _ _) <| hkw17.2) ((hkw3.2.2 c5).1 c16).2.2) (fun c16 => w_f b124 d124_86 rfl rfl rfl <| w_f b124 d124_87 rfl rfl rfl <| w_pi b124 d124_88 rfl rfl hkw3.1 (tlt 139 rfl) tbC_139 rfl rfl rfl <| w_rv b124 d124_91 r124 (((hkw3.2.2 c5).2 c16) _ rfl)))) ((h.2 c1).1 c2).2.2.2) (fun c2 => w_f b124 d124_36 rfl rfl rfl <| w_f b124 d124_37 rfl rfl rfl <| w_pi b124 d124_38 rfl rfl hs (tlt 139 rfl) tbC_139 rfl rfl rfl <| w_rv b124 d124_41 r124 (((h.2 c1).2 c2) _ rfl)))
theorem l124 {w : PW} {Q : PO → PW → Prop} {c u : Nat} {m : Row} {but : Int} (hC : BR w c m) (hu : (u : Int) < m 1) (hbut : bd but) : ∀ n : Nat, n ≤ 12000 → ∀ (σ : SS) (w' : PW), Sh w' → SF w w' → SkI w' m u σ → (sRun m u but n σ).1 ≠ -9 → (∀ w2, Sh w2 → SF w w2 → SkF w2 m u (sRun m u but n σ) → Q (.inl none) w2) → ∀ o6 o7 : Option Value, pc2 o6 = false → pc2 o7 = false → pX 124 19 [some (.ref 139), some (.ref c), some (iv (u : Nat)), some (iv but), some (iv (σ.1 : Int)), some (iv ((12000 - n : Nat) : Int)), o6, o7] [] w' Q := by
  have hR := hC.ok
  have h0 := hR.s
  have h1 := hR.u
  have h4 := hR.t
  have h5 := hR.n
  have hRl := ordR_le hR (u : Int)
  have hat := bx_at hC.bx
  intro n
  induction n with
  | zero => intro _ σ w' _ _ _ h9; exact absurd rfl h9
  | succ n ih =>
    intro hn σ w' s1 hF hI h9 h o6 o7 h6 h7
    obtain ⟨d, tr, ch⟩ := σ
    obtain ⟨i0, i1, i2, i3, i4, i5, i6, i7, i8, i9⟩ := hI
    have hC1 := hF.br hC
    have x5 : (((12000 - (n + 1) : Nat) : Int) + 1) = ((12000 - n : Nat) : Int) := by omega
    refine v124_19 s1 hC.bx (bdk (by omega)) hbut (bdk (by show d ≤ 2000000; have : d ≤ ordR m u := i7; omega)) (bdk (by omega)) h6 h7 ?_
    rw [i2, Int.toNat_natCast, x5]
    refine ⟨fun q => by omega, fun _ => ⟨fun q => ?_, fun q w20 e20 => ?_⟩⟩
    · have hd : d < ordR m u := by omega
      have i8' : -1 ≤ ch d ∧ ch d < m 4 := i8 hd
      obtain ⟨o1, o2⟩ := ordN_ok hR hd
      obtain ⟨f1, f2, f3⟩ := hC1.N o1
      have hd60 : 0 ≤ (d : Int) ∧ (d : Int) < 60 := ⟨by omega, by omega⟩
      rw [i3 d hd, i4 d (Nat.le_refl _) hd, Int.toNat_natCast, f3]
      have hpb := (hR.N o1).2.2
      refine ⟨hd60, hd60, ⟨by omega, by omega⟩, c119 s1 hC1 i8' ⟨by omega, by omega⟩ hbut ?_⟩
      have hfn := (fnd_spec (sNext m (rN m (ordN m u d) 2) but (ch d)) (m 4).toNat).1
      have hnd : ¬ ordR m u ≤ d := by omega
      by_cases hfd : fnd (sNext m (rN m (ordN m u d) 2) but (ch d)) (m 4).toNat < (m 4).toNat
      · rw [if_pos hfd]
        obtain ⟨t, ht⟩ : ∃ t : Nat, t = fnd (sNext m (rN m (ordN m u d) 2) but (ch d)) (m 4).toNat := ⟨_, rfl⟩
        rw [← ht] at hfd hfn ⊢
        have hts : sTry m u but (d, tr, ch) = t := ht.symm
        have ht4 : (t : Int) < m 4 := by omega
        refine kI_iv (bdk (by omega)) ⟨s1, fun _ => ⟨fun q4 w7 e7 => ⟨hd60, fun w8 e8 => ?_⟩, fun q4 => ?_⟩, fun q3 => by omega⟩
        · rw [i1] at q4 e7
          obtain ⟨s7, g7, l7, k7⟩ := stI e7 s1 (by omega) (slt_o tbC_139 rfl) ⟨by show -2147483648 ≤ (tr : Int) + 1; omega, by have : (tr : Int) < 4000 := q4; show (tr : Int) + 1 < 2147483648; omega⟩
          obtain ⟨s8, g8, l8, k8⟩ := stI e8 s7 (by omega) (slt_a tbC_141) (bdk (by omega))
          have q4' : tr < 4000 := by have : (tr : Int) < 4000 := q4; omega
          have hF8 : SF w w8 := hF.tr (fun a ha => by rw [k8 a (by omega), k7 a (by omega)])
          have hC8 := hF8.br hC
          have T8 : TrS w8 m u ch d := i5.cell (by rw [k8 142 (by decide), k7 142 (by decide)])
          have r8 : ∀ j, gI w8 139 j = if j = 1 then ((tr : Int) + 1) else gI w' 139 j := fun j => by
            rw [g8, if_neg (by omega), g7]
            by_cases e : j = 1
            · rw [if_pos ⟨rfl, e⟩, if_pos e]
            · rw [if_neg (fun z => e z.2), if_neg e]
          have r9 : ∀ j, gI w8 140 j = gI w' 140 j := fun j => by rw [g8, if_neg (by omega), g7, if_neg (by omega)]
          have r1 : ∀ j, gI w8 141 j = if j = d then (t : Int) else gI w' 141 j := fun j => by
            rw [g8]
            by_cases e : j = d
            · rw [if_pos ⟨rfl, e⟩, if_pos e]
            · rw [if_neg (fun z => e z.2), if_neg e, g7, if_neg (by omega)]
          have hbase : sRun m u but (n + 1) (d, tr, ch) = if sFit m u ch d t = true then sRun m u but n (d + 1, tr + 1, chSet (chSet ch d (t : Nat)) (d + 1) (-1)) else sRun m u but n (d, tr + 1, chSet ch d (t : Nat)) := by
            show (if ordR m u ≤ d then _ else _) = _
            rw [if_neg hnd, hts, if_pos hfd]
            show (if 4000 ≤ tr then _ else _) = _
            rw [if_neg (by omega)]
          refine c122 s8 hC8 hu hd ht4 T8 i6 ?_
          by_cases hfit : sFit m u ch d t = true
          · rw [if_pos hfit] at hbase ⊢
            rw [hbase] at h9 h
            refine kI_iv (by decide) ⟨s8, fun q => absurd q (by decide), fun _ => c123 s8 hC8 hu hd ht4 T8 (fun w12 s12 T12 k12 => ⟨s12, ⟨by omega, by omega⟩, ?_⟩)⟩
            have hF12 : SF w w12 := hF8.tr (fun a ha => k12 a (by omega))
            have hch : ChOK m u (chSet ch d (t : Nat)) (d + 1) := i6.push hR ht4 hfit
            have hcs : ∀ k, k < d + 1 → chSet (chSet ch d (t : Nat)) (d + 1) (-1) k = chSet ch d (t : Nat) k := fun k hk => if_neg (by omega)
            have r12 : gI w12 139 2 = (ordR m u : Nat) := by rw [gI_cell (k12 139 (by decide)), r8, if_neg (by decide), i2]
            rw [r12]
            refine ⟨fun q5 => ?_, fun q5 => ⟨⟨by omega, by omega⟩, fun w15 e15 => ?_⟩⟩
            · have := ih (by omega) (d + 1, tr + 1, chSet (chSet ch d (t : Nat)) (d + 1) (-1)) w12 s12 hF12 ⟨?_, ?_, r12, fun i hi => ?_, fun i hi hi2 => ?_, T12.congr hcs, hch.congr hcs, ?_, fun z => ?_, ?_⟩ h9 h (some (iv (ordN m u d : Nat))) (some (iv (t : Nat))) rfl rfl
              · exact this
              · rw [gI_cell (k12 139 (by decide)), r8, if_neg (by decide), i0]
              · rw [gI_cell (k12 139 (by decide)), r8, if_pos rfl]; rfl
              · rw [gI_cell (k12 140 (by decide)), r9, i3 i hi]
              · have hi' : i ≤ d + 1 := hi
                rw [gI_cell (k12 141 (by decide)), r1]
                show _ = chSet (chSet ch d (t : Nat)) (d + 1) (-1) i
                rw [hcs i (by omega)]
                unfold chSet
                by_cases e : i = d
                · rw [if_pos e, if_pos e]
                · rw [if_neg e, if_neg e, i4 i (by show i ≤ d; omega) hi2]
              · show d + 1 ≤ ordR m u; omega
              · exact absurd z (by show ¬ d + 1 < ordR m u; omega)
              · show tr + 1 ≤ 4000; omega
            · rw [show ((d : Int) + 1).toNat = d + 1 from by omega] at e15
              obtain ⟨s15, g15, l15, k15⟩ := stI e15 s12 (by omega) (slt_a tbC_141) (by decide)
              have := ih (by omega) (d + 1, tr + 1, chSet (chSet ch d (t : Nat)) (d + 1) (-1)) w15 s15 (hF12.tr (fun a ha => k15 a (by omega))) ⟨?_, ?_, ?_, fun i hi => ?_, fun i hi hi2 => ?_, (T12.congr hcs).cell (k15 142 (by decide)), hch.congr hcs, ?_, fun z => ?_, ?_⟩ h9 h (some (iv (ordN m u d : Nat))) (some (iv (t : Nat))) rfl rfl
              · exact this
              · rw [g15, if_neg (by omega), gI_cell (k12 139 (by decide)), r8, if_neg (by decide), i0]
              · rw [g15, if_neg (by omega), gI_cell (k12 139 (by decide)), r8, if_pos rfl]; rfl
              · rw [g15, if_neg (by omega), r12]
              · rw [g15, if_neg (by omega), gI_cell (k12 140 (by decide)), r9, i3 i hi]
              · have hi' : i ≤ d + 1 := hi
                rw [g15]
                by_cases e2 : i = d + 1
                · rw [if_pos ⟨rfl, e2⟩]
                  exact (if_pos e2).symm
                · rw [if_neg (fun z => e2 z.2), gI_cell (k12 141 (by decide)), r1]
                  show _ = chSet (chSet ch d (t : Nat)) (d + 1) (-1) i
                  rw [hcs i (by omega)]
                  unfold chSet
                  by_cases e : i = d
                  · rw [if_pos e, if_pos e]
                  · rw [if_neg e, if_neg e, i4 i (by show i ≤ d; omega) hi2]
              · show d + 1 ≤ ordR m u; omega
              · show -1 ≤ chSet (chSet ch d (t : Nat)) (d + 1) (-1) (d + 1) ∧ chSet (chSet ch d (t : Nat)) (d + 1) (-1) (d + 1) < m 4
                rw [show chSet (chSet ch d (t : Nat)) (d + 1) (-1) (d + 1) = -1 from if_pos rfl]
                omega
              · show tr + 1 ≤ 4000; omega
          · rw [if_neg hfit] at hbase ⊢
            rw [hbase] at h9 h
            have hcs : ∀ k, k < d → chSet ch d (t : Nat) k = ch k := fun k hk => if_neg (by omega)
            refine kI_iv bd0 ⟨s8, fun _ => ?_, fun q => absurd rfl q⟩
            have := ih (by omega) (d, tr + 1, chSet ch d (t : Nat)) w8 s8 hF8 ⟨?_, ?_, ?_, fun i hi => ?_, fun i hi hi2 => ?_, T8.congr hcs, i6.congr hcs, i7, fun z => ?_, ?_⟩ h9 h (some (iv (ordN m u d : Nat))) (some (iv (t : Nat))) rfl rfl
            · exact this
            · rw [r8, if_neg (by decide), i0]
            · rw [r8, if_pos rfl]; rfl
            · rw [r8, if_neg (by decide), i2]
            · rw [r9, i3 i hi]
            · rw [r1]
              show _ = chSet ch d (t : Nat) i
              unfold chSet
              by_cases e : i = d
              · rw [if_pos e, if_pos e]
              · rw [if_neg e, if_neg e, i4 i hi hi2]
            · show -1 ≤ chSet ch d (t : Nat) d ∧ chSet ch d (t : Nat) d < m 4
              rw [show chSet ch d (t : Nat) d = (t : Int) from if_pos rfl]
              omega
            · show tr + 1 ≤ 4000; omega
        · rw [i1] at q4
          have q4' : 4000 ≤ tr := by have : (4000 : Int) ≤ tr := q4; omega
          have hbase : sRun m u but (n + 1) (d, tr, ch) = (-2, (d, tr, ch)) := by
            show (if ordR m u ≤ d then _ else _) = _
            rw [if_neg hnd, hts, if_pos hfd]
            exact if_pos q4'
          rw [hbase] at h
          exact h w' s1 hF ⟨i0, fun z => absurd rfl z, i2, i3, fun z => absurd (show (-2 : Int) = 1 from z) (by decide)⟩
      · rw [if_neg hfd]
        have hts : ¬ sTry m u but (d, tr, ch) < (m 4).toNat := hfd
        refine kI_iv ⟨by decide, by decide⟩ ⟨s1, fun q3 => absurd rfl q3, fun _ => ⟨fun q4 => ?_, fun q4 w19 e19 => ?_⟩⟩
        · have q4' : d ≠ 0 := by omega
          obtain ⟨e, rfl⟩ : ∃ e, d = e + 1 := ⟨d - 1, by omega⟩
          have hbase : sRun m u but (n + 1) (e + 1, tr, ch) = sRun m u but n (e, tr, ch) := by
            show (if ordR m u ≤ e + 1 then _ else _) = _
            rw [if_neg hnd, if_neg hts]
            exact if_neg q4'
          rw [hbase] at h9 h
          rw [show (((e + 1 : Nat) : Int) + (-1)) = (e : Int) from by omega, Int.toNat_natCast, i3 e (by omega), i4 e (by show e ≤ e + 1; omega) (by omega)]
          have hce := i6.1 e (by show e < e + 1; omega)
          have hce' : 0 ≤ ch e ∧ ch e < m 4 := hce
          show _ ∧ _ ∧ pC 121 [.ref 139, .ref c, iv (ordN m u e : Nat), iv (ch e)] w' _
          rw [show ch e = (((ch e).toNat : Nat) : Int) from by omega]
          refine ⟨⟨by omega, by omega⟩, ⟨by omega, by omega⟩, c121 (ch := ch) (d := e) s1 hC1 hu (by omega) (by omega) (by omega) i5 i6 (fun w17 s17 T17 k17 => ⟨s17, ?_⟩)⟩
          have := ih (by omega) (e, tr, ch) w17 s17 (hF.tr (fun a ha => k17 a (by omega))) ⟨?_, ?_, ?_, fun i hi => ?_, fun i hi hi2 => ?_, T17, ChOK.less i6, ?_, fun z => ?_, i9⟩ h9 h (some (iv (ordN m u (e + 1) : Nat))) (some (iv (-1))) rfl rfl
          · exact this
          · rw [gI_cell (k17 139 (by decide)), i0]
          · rw [gI_cell (k17 139 (by decide)), i1]
          · rw [gI_cell (k17 139 (by decide)), i2]
          · rw [gI_cell (k17 140 (by decide)), i3 i hi]
          · rw [gI_cell (k17 141 (by decide))]
            exact i4 i (by have : i ≤ e := hi; show i ≤ e + 1; omega) hi2
          · show e ≤ ordR m u; omega
          · show -1 ≤ ch e ∧ ch e < m 4
            omega
        · have q4' : d = 0 := by omega
          subst q4'
          have hbase : sRun m u but (n + 1) (0, tr, ch) = (0, (0, tr, ch)) := by
            show (if ordR m u ≤ 0 then _ else _) = _
            rw [if_neg hnd, if_neg hts]
            exact if_pos rfl
          rw [hbase] at h
          obtain ⟨s19, g19, l19, k19⟩ := stI e19 s1 (by omega) (slt_o tbC_139 rfl) bd0
          refine h w19 s19 (hF.tr (fun a ha => k19 a (by omega))) ⟨?_, fun _ => ?_, ?_, fun i hi => ?_, fun z => absurd (show (0 : Int) = 1 from z) (by decide)⟩
          · rw [g19, if_pos ⟨rfl, rfl⟩]
          · rw [g19, if_neg (by omega), i1]
          · rw [g19, if_neg (by omega), i2]
          · rw [g19, if_neg (by omega), i3 i hi]
    · have hd : ordR m u ≤ d := by omega
      have hde : d = ordR m u := by have : d ≤ ordR m u := i7; omega
      have hbase : sRun m u but (n + 1) (d, tr, ch) = (1, (d, tr, ch)) := if_pos hd
      rw [hbase] at h
      obtain ⟨s19, g19, l19, k19⟩ := stI e20 s1 (by omega) (slt_o tbC_139 rfl) (by decide)
      refine h w20 s19 (hF.tr (fun a ha => k19 a (by omega))) ⟨?_, fun _ => ?_, ?_, fun i hi => ?_, fun _ => ⟨fun i hi => ?_, ?_, ?_⟩⟩
      · rw [g19, if_pos ⟨rfl, rfl⟩]
      · rw [g19, if_neg (by omega), i1]
      · rw [g19, if_neg (by omega), i2]
      · rw [g19, if_neg (by omega), i3 i hi]
      · rw [g19, if_neg (by omega)]
        exact i4 i (by show i ≤ d; omega) hi
      · rw [← hde]
        exact i5.cell (k19 142 (by decide))
      · rw [← hde]
        exact i6
theorem c124 {w : PW} {Q : PO → PW → Prop} {c u : Nat} {m : Row} {but : Int} (hs : Sh w) (hC : BR w c m) (hu : (u : Int) < m 1) (hbut : bd but) (h : ∀ w2, Sh w2 → SF w w2 → SkF w2 m u (sSeek m u but) → Q (.inl none) w2) : pC 124 [.ref 139, .ref c, iv (u : Nat), iv but] w Q := by
  have hR := hC.ok
  have h1 := hR.u
  have h4 := hR.t
  have hat := bx_at hC.bx
  refine e124 hs hC.bx (bdk (by omega)) hbut (c118 hs hC hu (fun w1 s1 n0 n1 n2 hV hT hF => ⟨s1, fun w3 e3 => ?_⟩))
  obtain ⟨s3, g3, l3, k3⟩ := stI e3 s1 (by omega) (slt_a tbC_141) (by decide)
  have := l124 hC hu hbut 12000 (Nat.le_refl _) (0, 0, fun _ => -1) w3 s3 (hF.tr (fun a ha => k3 a (by omega))) ⟨?_, ?_, ?_, fun i hi => ?_, fun i hi hi2 => ?_, fun j s hj hs9 => ?_, ?_, Nat.zero_le _, fun _ => ⟨Int.le_refl _, by show (-1 : Int) < m 4; omega⟩, Nat.zero_le _⟩ (sSeek_fuel m u but) h none none rfl rfl
  · exact this
  · rw [g3, if_neg (by omega), n0]
  · rw [g3, if_neg (by omega), n1]; rfl
  · rw [g3, if_neg (by omega), n2]
  · rw [g3, if_neg (by omega), hV i hi]
  · have : i = 0 := by have : i ≤ 0 := hi; omega
    rw [g3, if_pos ⟨rfl, this⟩]
  · rw [gL_cell (k3 142 (by decide)), hT j hj]
    have e : j / (m 1).toNat < (m 4).toNat ↔ j < (m 1).toNat * (m 4).toNat := by rw [Nat.div_lt_iff_lt_mul (by omega), Nat.mul_comm]
    by_cases q : j % (m 1).toNat = u ∧ j < (m 1).toNat * (m 4).toNat
    · rw [if_pos q, if_pos ⟨q.1, e.mpr q.2⟩, tL_0]
      rfl
    · rw [if_neg q, if_neg (fun z => q ⟨z.1, e.mp z.2⟩)]
      exact hC.P hj hs9
  · exact ⟨fun k hk => absurd hk (Nat.not_lt_zero k), fun i j _ hj => absurd hj (Nat.not_lt_zero j)⟩

