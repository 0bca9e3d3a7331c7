/-! THE SEARCH's answers, notes in a row, the writer: the class -/
/-! 130: PinBarrel$Search.toothFor(I)I -/
theorem b130 : mB 130 = cX6_toothFor := rfl
theorem r130 : mR 130 = (some .int) := rfl
theorem p130 (a b : Nat) : phi 130 a ≤ phi 130 b := Nat.le_refl 0
theorem d130_0 : decode cX6_toothFor 0 = .ok (.iconst 0, 1) := by decide +kernel
theorem d130_1 : decode cX6_toothFor 1 = .ok (.istore_n 2, 1) := by decide +kernel
theorem d130_2 : decode cX6_toothFor 2 = .ok (.iload_n 2, 1) := by decide +kernel
theorem d130_3 : decode cX6_toothFor 3 = .ok (.aload_n 0, 1) := by decide +kernel
theorem d130_4 : decode cX6_toothFor 4 = .ok (.getfield 18, 3) := by decide +kernel
theorem d130_7 : decode cX6_toothFor 7 = .ok (.if_icmp .ge 26, 3) := by decide +kernel
theorem d130_10 : decode cX6_toothFor 10 = .ok (.aload_n 0, 1) := by decide +kernel
theorem d130_11 : decode cX6_toothFor 11 = .ok (.getfield 21, 3) := by decide +kernel
theorem d130_14 : decode cX6_toothFor 14 = .ok (.iload_n 2, 1) := by decide +kernel
theorem d130_15 : decode cX6_toothFor 15 = .ok (.iaload, 1) := by decide +kernel
theorem d130_16 : decode cX6_toothFor 16 = .ok (.iload_n 1, 1) := by decide +kernel
theorem d130_17 : decode cX6_toothFor 17 = .ok (.if_icmp .ne 10, 3) := by decide +kernel
theorem d130_20 : decode cX6_toothFor 20 = .ok (.aload_n 0, 1) := by decide +kernel
theorem d130_21 : decode cX6_toothFor 21 = .ok (.getfield 25, 3) := by decide +kernel
theorem d130_24 : decode cX6_toothFor 24 = .ok (.iload_n 2, 1) := by decide +kernel
theorem d130_25 : decode cX6_toothFor 25 = .ok (.iaload, 1) := by decide +kernel
theorem d130_26 : decode cX6_toothFor 26 = .ok (.ireturn, 1) := by decide +kernel
theorem d130_27 : decode cX6_toothFor 27 = .ok (.iinc 2 1, 3) := by decide +kernel
theorem d130_30 : decode cX6_toothFor 30 = .ok (.goto (-28), 3) := by decide +kernel
theorem d130_33 : decode cX6_toothFor 33 = .ok (.iconst (-1), 1) := by decide +kernel
theorem d130_34 : decode cX6_toothFor 34 = .ok (.ireturn, 1) := by decide +kernel
theorem v130_0 {w : PW} {Q : PO → PW → Prop} {x1 : Int} (hs : Sh w) (hx1 : bd x1) (h : pX 130 2 [some (.ref 139), some (iv x1), some (iv 0)] [] w Q) : pX 130 0 [some (.ref 139), some (iv x1), none] [] w Q :=
  w_f b130 d130_0 rfl rfl rfl <| w_f b130 d130_1 rfl rfl rfl <| h
theorem e130 {w : PW} {Q : PO → PW → Prop} {x1 : Int} (hs : Sh w) (hx1 : bd x1) (h : pX 130 2 [some (.ref 139), some (iv x1), some (iv 0)] [] w Q) : pC 130 [.ref 139, iv x1] w Q :=
  (pC_in (Nat.le_of_ble_eq_true rfl) rfl Q).mpr (v130_0 hs hx1 h)
theorem v130_2 {w : PW} {Q : PO → PW → Prop} {x1 : Int} {x2 : Int} (hs : Sh w) (hx1 : bd x1) (hx2 : bd x2) (h : ((gI w 139 2) ≤ x2 → Q (.inl (some (iv ((-1))))) w) ∧ (x2 < (gI w 139 2) → (0 ≤ x2 ∧ x2 < 60) ∧ ((gI w 140 x2.toNat) ≠ x1 → pX 130 2 [some (.ref 139), some (iv x1), some (iv (x2 + 1))] [] w Q) ∧ ((gI w 140 x2.toNat) = x1 → (0 ≤ x2 ∧ x2 < 60) ∧ Q (.inl (some (iv (gI w 141 x2.toNat)))) w))) : pX 130 2 [some (.ref 139), some (iv x1), some (iv x2)] [] w Q :=
  w_f b130 d130_2 rfl rfl rfl <| w_f b130 d130_3 rfl rfl rfl <| w_gi b130 d130_4 rfl rfl hs (tlt 139 rfl) tbC_139 rfl <| w_icge b130 d130_7 rfl rfl (p130 _ _) hx2 (bd_gI _ _ _) (fun c1 => w_f b130 d130_33 rfl rfl rfl <| w_ri b130 d130_34 r130 (h.1 c1)) (fun c1 => w_f b130 d130_10 rfl rfl rfl <| w_gr b130 d130_11 rfl rfl hs (tlt 139 rfl) tbC_139 rfl (by decide) <| w_f b130 d130_14 rfl rfl rfl <| w_ial b130 d130_15 rfl hs (tlt 140 rfl) tbC_140 (bdix (n := 60) (h.2 c1).1 rfl) (h.2 c1).1 <| w_f b130 d130_16 rfl rfl rfl <| w_icne b130 d130_17 rfl rfl (p130 _ _) (bd_gI _ _ _) hx1 (fun c2 => w_f b130 d130_27 rfl (pf_iinc rfl rfl) rfl <| w_j b130 d130_30 rfl (p130 _ _) <| ((h.2 c1).2.1 c2)) (fun c2 => w_f b130 d130_20 rfl rfl rfl <| w_gr b130 d130_21 rfl rfl hs (tlt 139 rfl) tbC_139 rfl (by decide) <| w_f b130 d130_24 rfl rfl rfl <| w_ial b130 d130_25 rfl hs (tlt 141 rfl) tbC_141 (bdix (n := 60) ((h.2 c1).2.2 c2).1 rfl) ((h.2 c1).2.2 c2).1 <| w_ri b130 d130_26 r130 ((h.2 c1).2.2 c2).2))
/-! 133: PinBarrel$Search.teethUsed()I -/
theorem b133 : mB 133 = cX6_teethUsed := rfl
theorem r133 : mR 133 = (some .int) := rfl
theorem p133 (a b : Nat) : phi 133 a ≤ phi 133 b := Nat.le_refl 0
theorem d133_0 : decode cX6_teethUsed 0 = .ok (.iconst 0, 1) := by decide +kernel
theorem d133_1 : decode cX6_teethUsed 1 = .ok (.istore_n 1, 1) := by decide +kernel
theorem d133_2 : decode cX6_teethUsed 2 = .ok (.iconst 0, 1) := by decide +kernel
theorem d133_3 : decode cX6_teethUsed 3 = .ok (.istore_n 2, 1) := by decide +kernel
theorem d133_4 : decode cX6_teethUsed 4 = .ok (.iload_n 2, 1) := by decide +kernel
theorem d133_5 : decode cX6_teethUsed 5 = .ok (.aload_n 0, 1) := by decide +kernel
theorem d133_6 : decode cX6_teethUsed 6 = .ok (.getfield 18, 3) := by decide +kernel
theorem d133_9 : decode cX6_teethUsed 9 = .ok (.if_icmp .ge 20, 3) := by decide +kernel
theorem d133_12 : decode cX6_teethUsed 12 = .ok (.iload_n 1, 1) := by decide +kernel
theorem d133_13 : decode cX6_teethUsed 13 = .ok (.iconst 1, 1) := by decide +kernel
theorem d133_14 : decode cX6_teethUsed 14 = .ok (.aload_n 0, 1) := by decide +kernel
theorem d133_15 : decode cX6_teethUsed 15 = .ok (.getfield 25, 3) := by decide +kernel
theorem d133_18 : decode cX6_teethUsed 18 = .ok (.iload_n 2, 1) := by decide +kernel
theorem d133_19 : decode cX6_teethUsed 19 = .ok (.iaload, 1) := by decide +kernel
theorem d133_20 : decode cX6_teethUsed 20 = .ok (.ishl, 1) := by decide +kernel
theorem d133_21 : decode cX6_teethUsed 21 = .ok (.ior, 1) := by decide +kernel
theorem d133_22 : decode cX6_teethUsed 22 = .ok (.istore_n 1, 1) := by decide +kernel
theorem d133_23 : decode cX6_teethUsed 23 = .ok (.iinc 2 1, 3) := by decide +kernel
theorem d133_26 : decode cX6_teethUsed 26 = .ok (.goto (-22), 3) := by decide +kernel
theorem d133_29 : decode cX6_teethUsed 29 = .ok (.iload_n 1, 1) := by decide +kernel
theorem d133_30 : decode cX6_teethUsed 30 = .ok (.ireturn, 1) := by decide +kernel
theorem v133_0 {w : PW} {Q : PO → PW → Prop}  (hs : Sh w)  (h : pX 133 4 [some (.ref 139), some (iv 0), some (iv 0)] [] w Q) : pX 133 0 [some (.ref 139), none, none] [] w Q :=
  w_f b133 d133_0 rfl rfl rfl <| w_f b133 d133_1 rfl rfl rfl <| w_f b133 d133_2 rfl rfl rfl <| w_f b133 d133_3 rfl rfl rfl <| h
theorem e133 {w : PW} {Q : PO → PW → Prop}  (hs : Sh w)  (h : pX 133 4 [some (.ref 139), some (iv 0), some (iv 0)] [] w Q) : pC 133 [.ref 139] w Q :=
  (pC_in (Nat.le_of_ble_eq_true rfl) rfl Q).mpr (v133_0 hs  h)
theorem v133_4 {w : PW} {Q : PO → PW → Prop} {x1 : Int} {x2 : Int} (hs : Sh w) (hx1 : bd x1) (hx2 : bd x2) (h : ((gI w 139 2) ≤ x2 → Q (.inl (some (iv x1))) w) ∧ (x2 < (gI w 139 2) → (0 ≤ x2 ∧ x2 < 60) ∧ pX 133 4 [some (.ref 139), some (iv (iOr x1 (iShl 1 (gI w 141 x2.toNat)))), some (iv (x2 + 1))] [] w Q)) : pX 133 4 [some (.ref 139), some (iv x1), some (iv x2)] [] w Q :=
  w_f b133 d133_4 rfl rfl rfl <| w_f b133 d133_5 rfl rfl rfl <| w_gi b133 d133_6 rfl rfl hs (tlt 139 rfl) tbC_139 rfl <| w_icge b133 d133_9 rfl rfl (p133 _ _) hx2 (bd_gI _ _ _) (fun c1 => w_f b133 d133_29 rfl rfl rfl <| w_ri b133 d133_30 r133 (h.1 c1)) (fun c1 => w_f b133 d133_12 rfl rfl rfl <| w_f b133 d133_13 rfl rfl rfl <| w_f b133 d133_14 rfl rfl rfl <| w_gr b133 d133_15 rfl rfl hs (tlt 139 rfl) tbC_139 rfl (by decide) <| w_f b133 d133_18 rfl rfl rfl <| w_ial b133 d133_19 rfl hs (tlt 141 rfl) tbC_141 (bdix (n := 60) (h.2 c1).1 rfl) (h.2 c1).1 <| w_f b133 d133_20 rfl (pf_ishl 1 (gI w 141 x2.toNat)) rfl <| w_f b133 d133_21 rfl (pf_ior x1 (iShl 1 (gI w 141 x2.toNat))) rfl <| w_f b133 d133_22 rfl rfl rfl <| w_f b133 d133_23 rfl (pf_iinc rfl rfl) rfl <| w_j b133 d133_26 rfl (p133 _ _) <| (h.2 c1).2)
/-! 180: PinBarrel$Search.putPins(LPinBarrel$Box;)V -/
theorem b180 : mB 180 = cX6_putPins := rfl
theorem r180 : mR 180 = none := rfl
theorem p180 (a b : Nat) : phi 180 a ≤ phi 180 b := Nat.le_refl 0
theorem d180_0 : decode cX6_putPins 0 = .ok (.aload_n 0, 1) := by decide +kernel
theorem d180_1 : decode cX6_putPins 1 = .ok (.getfield 28, 3) := by decide +kernel
theorem d180_4 : decode cX6_putPins 4 = .ok (.iconst 0, 1) := by decide +kernel
theorem d180_5 : decode cX6_putPins 5 = .ok (.aload_n 1, 1) := by decide +kernel
theorem d180_6 : decode cX6_putPins 6 = .ok (.getfield 62, 3) := by decide +kernel
theorem d180_9 : decode cX6_putPins 9 = .ok (.iconst 0, 1) := by decide +kernel
theorem d180_10 : decode cX6_putPins 10 = .ok (.bipush 36, 2) := by decide +kernel
theorem d180_12 : decode cX6_putPins 12 = .ok (.invokestatic 65, 3) := by decide +kernel
theorem d180_15 : decode cX6_putPins 15 = .ok (.return_, 1) := by decide +kernel
theorem v180_0 {w : PW} {Q : PO → PW → Prop} {c : Nat} (hs : Sh w) (hc : bx c) (h : ∀ w1 : PW, w1 = sCp w 142 (c + 3) 36 → Q (.inl none) w1) : pX 180 0 [some (.ref 139), some (.ref c)] [] w Q :=
  w_f b180 d180_0 rfl rfl rfl <| w_gr b180 d180_1 rfl rfl hs (tlt 139 rfl) tbC_139 rfl (by decide) <| w_f b180 d180_4 rfl rfl rfl <| w_f b180 d180_5 rfl rfl rfl <| w_gr b180 d180_6 rfl rfl hs (bx00 hc) (tb0 hc) rfl (bxr hc 3 rfl) <| w_f b180 d180_9 rfl rfl rfl <| w_f b180 d180_10 rfl rfl rfl <| w_acpL b180 d180_12 rfl rfl rfl hs (tlt 142 rfl) tbC_142 (bxk hc 3 rfl) (tb3 hc) ⟨by decide, by decide⟩ ⟨by decide, by decide, by decide⟩ <| w_rv b180 d180_15 r180 (h _ rfl)
theorem e180 {w : PW} {Q : PO → PW → Prop} {c : Nat} (hs : Sh w) (hc : bx c) (h : ∀ w1 : PW, w1 = sCp w 142 (c + 3) 36 → Q (.inl none) w1) : pC 180 [.ref 139, .ref c] w Q :=
  (pC_in (Nat.le_of_ble_eq_true rfl) rfl Q).mpr (v180_0 hs hc h)
/-- the place of a note in the order -/
theorem ordN_in {m : Row} {u : Int} : ∀ n k, k < n → rN m k 0 = u → ∃ i, i < (sOrd m u n).2 ∧ (sOrd m u n).1 i = k := by
  intro n
  induction n with
  | zero => intro k hk; exact absurd hk (Nat.not_lt_zero k)
  | succ n ih =>
    intro k hk hu
    by_cases q : rN m n 0 = u
    · rw [show sOrd m u (n + 1) = (insO m (sOrd m u n).1 (sOrd m u n).2 n, (sOrd m u n).2 + 1) from if_pos q]
      have hp := insP_le m (sOrd m u n).1 n (sOrd m u n).2
      by_cases e : k = n
      · refine ⟨insP m (sOrd m u n).1 n (sOrd m u n).2, by show _ < (sOrd m u n).2 + 1; omega, ?_⟩
        show insO _ _ _ _ _ = k
        unfold insO
        rw [if_neg (Nat.lt_irrefl _), if_pos rfl, e]
      · obtain ⟨i, h1, h2⟩ := ih k (by omega) hu
        by_cases q2 : i < insP m (sOrd m u n).1 n (sOrd m u n).2
        · refine ⟨i, by show _ < (sOrd m u n).2 + 1; omega, ?_⟩
          show insO _ _ _ _ _ = k
          unfold insO
          rw [if_pos q2, h2]
        · refine ⟨i + 1, by show _ < (sOrd m u n).2 + 1; omega, ?_⟩
          show insO _ _ _ _ _ = k
          unfold insO
          rw [if_neg (by omega), if_neg (by omega), show i + 1 - 1 = i from by omega, h2]
    · rw [show sOrd m u (n + 1) = sOrd m u n from if_neg q]
      have : k ≠ n := fun e => q (e ▸ hu)
      exact ih k (by omega) hu
theorem l130_2 {w : PW} {Q : PO → PW → Prop} {kk R : Nat} {ord : Nat → Nat} {ch : Nat → Int} (hs : Sh w) (hR : R ≤ 60) (hk : kk < 60) (h2 : gI w 139 2 = (R : Nat)) (ho : ∀ i, i < R → gI w 140 i = (ord i : Nat)) (hc : ∀ i, i < R → gI w 141 i = ch i) (hin : ∃ i, i < R ∧ ord i = kk) (h : Q (.inl (some (iv (ch (fnd (fun i => decide (ord i = kk)) R))))) w) : ∀ k i : Nat, i + k = R → (∀ j, j < i → ord j ≠ kk) → pX 130 2 [some (.ref 139), some (iv (kk : Nat)), some (iv (i : Nat))] [] w Q := by
  intro k
  induction k with
  | zero =>
    intro i hi hI
    exfalso
    obtain ⟨j, hj, he⟩ := hin
    exact hI j (by omega) he
  | succ k ih =>
    intro i hi hI
    refine v130_2 hs (bdk (by omega)) (bdk (by omega)) ?_
    rw [h2, Int.toNat_natCast, ho i (by omega), hc i (by omega)]
    refine ⟨fun q => by omega, fun _ => ⟨⟨by omega, by omega⟩, fun q => ih (i + 1) (by omega) (fun j hj => ?_), fun q => ⟨⟨by omega, by omega⟩, ?_⟩⟩⟩
    · by_cases e : j = i
      · rw [e]; intro z; exact q (by rw [z])
      · exact hI j (by omega)
    · have e : fnd (fun i => decide (ord i = kk)) R = i := fnd_eq (fun j hj => decide_eq_false (hI j hj)) (fun _ => decide_eq_true (by omega)) (by omega)
      rw [e] at h
      exact h
theorem l133_4 {w : PW} {Q : PO → PW → Prop} {R : Nat} {ch : Nat → Int} (hs : Sh w) (hR : R ≤ 60) (h2 : gI w 139 2 = (R : Nat)) (hc : ∀ i, i < R → gI w 141 i = ch i ∧ 0 ≤ ch i ∧ ch i < 12) (h : ∀ X, bd X → (∀ t, t < 32 → tI X t = decide (0 < cnt (fun k => decide (ch k = (t : Int))) R)) → Q (.inl (some (iv X))) w) : ∀ k i : Nat, i + k = R → ∀ x, bd x → (∀ t, t < 32 → tI x t = decide (0 < cnt (fun k => decide (ch k = (t : Int))) i)) → pX 133 4 [some (.ref 139), some (iv x), some (iv (i : Nat))] [] w Q := by
  intro k
  induction k with
  | zero =>
    intro i hi x hx hb
    refine v133_4 hs hx (bdk (by omega)) ?_
    rw [h2]
    refine ⟨fun _ => h x hx (fun t ht => ?_), fun q => by omega⟩
    rw [hb t ht, show i = R from by omega]
  | succ k ih =>
    intro i hi x hx hb
    obtain ⟨c1, c2, c3⟩ := hc i (by omega)
    refine v133_4 hs hx (bdk (by omega)) ?_
    rw [h2, Int.toNat_natCast, c1]
    refine ⟨fun q => by omega, fun _ => ⟨⟨by omega, by omega⟩, ih (i + 1) (by omega) _ (bd_toInt _) (fun t ht => ?_)⟩⟩
    rw [tI_or, hb t ht, tI_bit ⟨c2, by omega⟩ ht, cnt_s]
    by_cases e : ch i = (t : Int)
    · rw [decide_eq_true e, if_pos rfl, decide_eq_true (p := t = (ch i).toNat) (by omega), Bool.or_true, decide_eq_true (by omega)]
    · rw [decide_eq_false e, if_neg Bool.false_ne_true, decide_eq_false (p := t = (ch i).toNat) (by omega), Bool.or_false, Nat.add_zero]
theorem c130 {w : PW} {Q : PO → PW → Prop} {k : Nat} {m : Row} {u : Nat} {r : Int × SS} (hs : Sh w) (hR : RowOK m) (hk : (k : Int) < m 5) (hku : rN m k 0 = u) (hF : SkF w m u r) (h1 : r.1 = 1) (h : Q (.inl (some (iv (r.2.2.2 (fnd (fun i => decide (ordN m u i = k)) (ordR m u)))))) w) : pC 130 [.ref 139, iv (k : Nat)] w Q := by
  have h5 := hR.n
  obtain ⟨f0, f1, f2, f3, f4⟩ := hF
  obtain ⟨g1, g2, g3⟩ := f4 h1
  exact e130 hs (bdk (by omega)) (l130_2 hs (ordR_le hR u) (by omega) f2 f3 g1 (ordN_in (m 5).toNat k (by omega) hku) h (ordR m u) 0 (Nat.zero_add _) (fun j hj => absurd hj (Nat.not_lt_zero j)))
theorem c133 {w : PW} {Q : PO → PW → Prop} {m : Row} {u : Nat} {r : Int × SS} (hs : Sh w) (hR : RowOK m) (hF : SkF w m u r) (h1 : r.1 = 1) (h : ∀ X, bd X → (∀ t, t < 32 → tI X t = decide (0 < cnt (fun k => decide (r.2.2.2 k = (t : Int))) (ordR m u))) → Q (.inl (some (iv X))) w) : pC 133 [.ref 139] w Q := by
  have h4 := hR.t
  obtain ⟨f0, f1, f2, f3, f4⟩ := hF
  obtain ⟨g1, g2, g3⟩ := f4 h1
  exact e133 hs (l133_4 hs (ordR_le hR u) f2 (fun i hi => ⟨g1 i hi, (g3.1 i hi).1, by have := (g3.1 i hi).2; omega⟩) h (ordR m u) 0 (Nat.zero_add _) 0 bd0 (fun t _ => by rw [tI_0]; rfl))
/-- the pins of a layout in place of those of the tune -/
def sLayG (m : Row) (u : Nat) (ch : Nat → Int) (g : Nat → Int) : Prop := ∀ s : Nat, (s : Int) < m 0 → bd (g s) ∧ ∀ t, t < 32 → tI (g s) t = (decide ((t : Int) < m 4) && sLaid m u ch (ordR m u) ((m 1).toNat * t + u) s)
theorem c180 {w : PW} {Q : PO → PW → Prop} {b : Nat} {m : Row} {u : Nat} {r : Int × SS} {g : Nat → Int} (hs : Sh w) (hB : BR w b m) (hu : (u : Int) < m 1) (hF : SkF w m u r) (h1 : r.1 = 1) (hg : sLayG m u r.2.2.2 g) (h : ∀ w2, Sh w2 → BR w2 b (rSetP m u g) → OB b w w2 → Q (.inl none) w2) : pC 180 [.ref 139, .ref b] w Q := by
  have hR := hB.ok
  have h0 := hR.s
  have hu1 := hR.u
  have a0 := bx_lt hB.bx
  obtain ⟨f0, f1, f2, f3, f4⟩ := hF
  obtain ⟨g1, g2, g3⟩ := f4 h1
  refine e180 hs hB.bx (fun w1 e1 => ?_)
  obtain ⟨s1, l1, -, k1⟩ := stD e1 hs (by omega) tbC_142 (by omega) (tb3 hB.bx)
  refine h w1 s1 (hB.setP hu k1 (fun s hs9 => ⟨(hg s hs9).1, fun t ht q => ?_⟩) (fun j s hj hs9 => ?_)) (fun c hc => k1 c (by omega))
  · rw [(hg s hs9).2 t ht, Bool.and_eq_true, decide_eq_true_eq] at q
    exact q.1
  · rw [l1, if_pos ⟨rfl, hj⟩, g2 j s hj hs9]
    by_cases q : j % (m 1).toNat = u ∧ j < (m 1).toNat * (m 4).toNat
    · rw [if_pos q, if_pos q]
      have e3 := Nat.div_add_mod j (m 1).toNat
      rw [q.1] at e3
      have q4 : j / (m 1).toNat < (m 4).toNat := by rw [Nat.div_lt_iff_lt_mul (by omega), Nat.mul_comm]; exact q.2
      have h4 := hR.t
      by_cases q2 : s < (m 0).toNat
      · rw [(hg s (by omega)).2 _ (by omega), e3, decide_eq_true q2, decide_eq_true (by omega)]; rfl
      · rw [decide_eq_false q2, Bool.false_and]
        cases q3 : sLaid m u r.2.2.2 (ordR m u) j s with
        | false => rfl
        | true =>
          obtain ⟨k, hk, -, hr⟩ := sLaid_iff.mp q3
          have := sStp_bd hR hk
          omega
    · rw [if_neg q, if_neg q, hB.P hj hs9]
/-- notes of a tune with a pitch in a row of steps around -/
def sRowP (m : Row) (u p f k : Int) (i : Nat) : Bool := decide (rN m i 0 = u ∧ rN m i 2 = p) && decide ((if rN m i 1 - f < 0 then rN m i 1 - f + m 0 else rN m i 1 - f) < k)
def sInRow (m : Row) (u p f k : Int) : Nat := cnt (sRowP m u p f k) (m 5).toNat
/-! the writer -/
def WR (w : PW) (o : Nat → Int) (n : Nat) : Prop := gI w 137 1 = n ∧ n ≤ 400 ∧ ∀ k, k < n → gI w 138 k = o k
def oPut (o : Nat → Int) (n : Nat) (z : Int) : Nat → Int := fun k => if k = n then z else o k
/-- nothing but the output has changed -/
def WF (w w' : PW) : Prop := ∀ c, ¬ (137 ≤ c ∧ c ≤ 138) → w'.2.2 c = w.2.2 c
theorem WF.rf {w : PW} : WF w w := fun _ _ => rfl
theorem WF.tr {w w1 w2 : PW} (h1 : WF w w1) (h2 : WF w1 w2) : WF w w2 := fun c hc => (h2 c hc).trans (h1 c hc)
theorem WF.br {w w' : PW} {b : Nat} {m : Row} (h : WF w w') (hB : BR w b m) : BR w' b m := by
  have := bx_at hB.bx
  exact hB.cells (fun k hk => h _ (by omega))
theorem nar_c : ∀ z : Nat, z < 256 → vp_nar .char (Int32.ofInt (z : Int)) = Int32.ofInt (z : Int) := by decide +kernel
theorem i2C_id : ∀ z : Nat, z < 256 → i2C (z : Int) = (z : Int) := by decide +kernel
/-- a text behind the output -/
def oTxt (o : Nat → Int) (n : Nat) (l : List Nat) : Nat → Int := fun k => if k < n then o k else ((l.getD (k - n) 0 : Nat) : Int)
def nmL : List (List Nat) := [[99], [99, 105, 115], [100], [100, 105, 115], [101], [102], [102, 105, 115], [103], [103, 105, 115], [97], [97, 105, 115], [98]]
theorem nmC_txt : ∀ k, k < 12 → sTx.getD (nmC (k : Nat)) [] = nmL.getD k [] ∧ nmC (k : Nat) < 38 := by decide +kernel
theorem nmL_ok : ∀ k, k < 12 → (nmL.getD k []).length ≤ 3 ∧ ∀ i, i < (nmL.getD k []).length → (nmL.getD k []).getD i 0 < 256 := by decide +kernel
/-- the letters of a pitch: its name and its octave -/
def oPit (p : Nat) : List Nat := nmL.getD (p % 12) [] ++ [48 + p / 12]
theorem oPit_len {p : Nat} (h : p < 24) : (oPit p).length ≤ 4 := by
  have := (nmL_ok (p % 12) (by omega)).1
  unfold oPit
  rw [List.length_append]
  show (nmL.getD (p % 12) []).length + 1 ≤ 4
  omega
theorem WR.congr {w : PW} {o o' : Nat → Int} {n : Nat} (h : WR w o n) (he : ∀ k, k < n → o' k = o k) : WR w o' n := ⟨h.1, h.2.1, fun k hk => by rw [he k hk]; exact h.2.2 k hk⟩

