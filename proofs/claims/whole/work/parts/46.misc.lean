/-! THE SEARCH's answers, notes in a row, the writer: the class -/
/-! 130: PinBarrel$Search.toothFor(I)I -/
theorem b130 : mB 130 = cX6_toothFor := rfl
theorem r130 : mR 130 = (some .int) := rfl
theorem p130 (a b : Nat) : phi 130 a ≤ phi 130 b := Nat.le_refl 0
theorem d130_0 : decode cX6_toothFor 0 = .ok (.iconst 0, 1) := by decide +kernel
theorem d130_1 : decode cX6_toothFor 1 = .ok (.istore_n 2, 1) := by decide +kernel
theorem d130_2 : decode cX6_toothFor 2 = .ok (.iload_n 2, 1) := by decide +kernel
theorem d130_3 : decode cX6_toothFor 3 = .ok (.aload_n 0, 1) := by decide +kernel
theorem d130_4 : decode cX6_toothFor 4 = .ok (.getfield 18, 3) := by decide +kernel
theorem d130_7 : decode cX6_toothFor 7 = .ok (.if_icmp .ge 26, 3) := by decide +kernel
theorem d130_10 : decode cX6_toothFor 10 = .ok (.aload_n 0, 1) := by decide +kernel
theorem d130_11 : decode cX6_toothFor 11 = .ok (.getfield 21, 3) := by decide +kernel
theorem d130_14 : decode cX6_toothFor 14 = .ok (.iload_n 2, 1) := by decide +kernel
theorem d130_15 : decode cX6_toothFor 15 = .ok (.iaload, 1) := by decide +kernel
theorem d130_16 : decode cX6_toothFor 16 = .ok (.iload_n 1, 1) := by decide +kernel
theorem d130_17 : decode cX6_toothFor 17 = .ok (.if_icmp .ne 10, 3) := by decide +kernel
theorem d130_20 : decode cX6_toothFor 20 = .ok (.aload_n 0, 1) := by decide +kernel
theorem d130_21 : decode cX6_toothFor 21 = .ok (.getfield 25, 3) := by decide +kernel
theorem d130_24 : decode cX6_toothFor 24 = .ok (.iload_n 2, 1) := by decide +kernel
theorem d130_25 : decode cX6_toothFor 25 = .ok (.iaload, 1) := by decide +kernel
theorem d130_26 : decode cX6_toothFor 26 = .ok (.ireturn, 1) := by decide +kernel
theorem d130_27 : decode cX6_toothFor 27 = .ok (.iinc 2 1, 3) := by decide +kernel
theorem d130_30 : decode cX6_toothFor 30 = .ok (.goto (-28), 3) := by decide +kernel
theorem d130_33 : decode cX6_toothFor 33 = .ok (.iconst (-1), 1) := by decide +kernel
theorem d130_34 : decode cX6_toothFor 34 = .ok (.ireturn, 1) := by decide +kernel
theorem v130_0 {w : PW} {Q : PO → PW → Prop} {x1 : Int} (hs : Sh w) (hx1 : bd x1) (h : pX 130 2 [some (.ref 139), some (iv x1), some (iv 0)] [] w Q) : pX 130 0 [some (.ref 139), some (iv x1), none] [] w Q :=
  w_f b130 d130_0 rfl rfl rfl <| w_f b130 d130_1 rfl rfl rfl <| h
theorem e130 {w : PW} {Q : PO → PW → Prop} {x1 : Int} (hs : Sh w) (hx1 : bd x1) (h : pX 130 2 [some (.ref 139), some (iv x1), some (iv 0)] [] w Q) : pC 130 [.ref 139, iv x1] w Q :=
  (pC_in (Nat.le_of_ble_eq_true rfl) rfl Q).mpr (v130_0 hs hx1 h)
theorem v130_2 {w : PW} {Q : PO → PW → Prop} {x1 : Int} {x2 : Int} (hs : Sh w) (hx1 : bd x1) (hx2 : bd x2) (h : ((gI w 139 2) ≤ x2 → Q (.inl (some (iv ((-1))))) w) ∧ (x2 < (gI w 139 2) → (0 ≤ x2 ∧ x2 < 60) ∧ ((gI w 140 x2.toNat) ≠ x1 → pX 130 2 [some (.ref 139), some (iv x1), some (iv (x2 + 1))] [] w Q) ∧ ((gI w 140 x2.toNat) = x1 → (0 ≤ x2 ∧ x2 < 60) ∧ Q (.inl (some (iv (gI w 141 x2.toNat)))) w))) : pX 130 2 [some (.ref 139), some (iv x1), some (iv x2)] [] w Q :=
  w_f b130 d130_2 rfl rfl rfl <| w_f b130 d130_3 rfl rfl rfl <| w_gi b130 d130_4 rfl rfl hs (tlt 139 rfl) tbC_139 rfl <| w_icge b130 d130_7 rfl rfl (p130 _ _) hx2 (bd_gI _ _ _) (fun c1 => w_f b130 d130_33 rfl rfl rfl <| w_ri b130 d130_34 r130 (h.1 c1)) (fun c1 => w_f b130 d130_10 rfl rfl rfl <| w_gr b130 d130_11 rfl rfl hs (tlt 139 rfl) tbC_139 rfl (by decide) <| w_f b130 d130_14 rfl rfl rfl <| w_ial b130 d130_15 rfl hs (tlt 140 rfl) tbC_140 (bdix (n := 60) (h.2 c1).1 rfl) (h.2 c1).1 <| w_f b130 d130_16 rfl rfl rfl <| w_icne b130 d130_17 rfl rfl (p130 _ _) (bd_gI _ _ _) hx1 (fun c2 => w_f b130 d130_27 rfl (pf_iinc rfl rfl) rfl <| w_j b130 d130_30 rfl (p130 _ _) <| ((h.2 c1).2.1 c2)) (fun c2 => w_f b130 d130_20 rfl rfl rfl <| w_gr b130 d130_21 rfl rfl hs (tlt 139 rfl) tbC_139 rfl (by decide) <| w_f b130 d130_24 rfl rfl rfl <| w_ial b130 d130_25 rfl hs (tlt 141 rfl) tbC_141 (bdix (n := 60) ((h.2 c1).2.2 c2).1 rfl) ((h.2 c1).2.2 c2).1 <| w_ri b130 d130_26 r130 ((h.2 c1).2.2 c2).2))
/-! 133: PinBarrel$Search.teethUsed()I -/
theorem b133 : mB 133 = cX6_teethUsed := rfl
theorem r133 : mR 133 = (some .int) := rfl
theorem p133 (a b : Nat) : phi 133 a ≤ phi 133 b := Nat.le_refl 0
theorem d133_0 : decode cX6_teethUsed 0 = .ok (.iconst 0, 1) := by decide +kernel
theorem d133_1 : decode cX6_teethUsed 1 = .ok (.istore_n 1, 1) := by decide +kernel
theorem d133_2 : decode cX6_teethUsed 2 = .ok (.iconst 0, 1) := by decide +kernel
theorem d133_3 : decode cX6_teethUsed 3 = .ok (.istore_n 2, 1) := by decide +kernel
theorem d133_4 : decode cX6_teethUsed 4 = .ok (.iload_n 2, 1) := by decide +kernel
theorem d133_5 : decode cX6_teethUsed 5 = .ok (.aload_n 0, 1) := by decide +kernel
theorem d133_6 : decode cX6_teethUsed 6 = .ok (.getfield 18, 3) := by decide +kernel
theorem d133_9 : decode cX6_teethUsed 9 = .ok (.if_icmp .ge 20, 3) := by decide +kernel
theorem d133_12 : decode cX6_teethUsed 12 = .ok (.iload_n 1, 1) := by decide +kernel
theorem d133_13 : decode cX6_teethUsed 13 = .ok (.iconst 1, 1) := by decide +kernel
theorem d133_14 : decode cX6_teethUsed 14 = .ok (.aload_n 0, 1) := by decide +kernel
theorem d133_15 : decode cX6_teethUsed 15 = .ok (.getfield 25, 3) := by decide +kernel
theorem d133_18 : decode cX6_teethUsed 18 = .ok (.iload_n 2, 1) := by decide +kernel
theorem d133_19 : decode cX6_teethUsed 19 = .ok (.iaload, 1) := by decide +kernel
theorem d133_20 : decode cX6_teethUsed 20 = .ok (.ishl, 1) := by decide +kernel
theorem d133_21 : decode cX6_teethUsed 21 = .ok (.ior, 1) := by decide +kernel
theorem d133_22 : decode cX6_teethUsed 22 = .ok (.istore_n 1, 1) := by decide +kernel
theorem d133_23 : decode cX6_teethUsed 23 = .ok (.iinc 2 1, 3) := by decide +kernel
theorem d133_26 : decode cX6_teethUsed 26 = .ok (.goto (-22), 3) := by decide +kernel
theorem d133_29 : decode cX6_teethUsed 29 = .ok (.iload_n 1, 1) := by decide +kernel
theorem d133_30 : decode cX6_teethUsed 30 = .ok (.ireturn, 1) := by decide +kernel
theorem v133_0 {w : PW} {Q : PO → PW → Prop}  (hs : Sh w)  (h : pX 133 4 [some (.ref 139), some (iv 0), some (iv 0)] [] w Q) : pX 133 0 [some (.ref 139), none, none] [] w Q :=
  w_f b133 d133_0 rfl rfl rfl <| w_f b133 d133_1 rfl rfl rfl <| w_f b133 d133_2 rfl rfl rfl <| w_f b133 d133_3 rfl rfl rfl <| h
theorem e133 {w : PW} {Q : PO → PW → Prop}  (hs : Sh w)  (h : pX 133 4 [some (.ref 139), some (iv 0), some (iv 0)] [] w Q) : pC 133 [.ref 139] w Q :=
  (pC_in (Nat.le_of_ble_eq_true rfl) rfl Q).mpr (v133_0 hs  h)
theorem v133_4 {w : PW} {Q : PO → PW → Prop} {x1 : Int} {x2 : Int} (hs : Sh w) (hx1 : bd x1) (hx2 : bd x2) (h : ((gI w 139 2) ≤ x2 → Q (.inl (some (iv x1))) w) ∧ (x2 < (gI w 139 2) → (0 ≤ x2 ∧ x2 < 60) ∧ pX 133 4 [some (.ref 139), some (iv (iOr x1 (iShl 1 (gI w 141 x2.toNat)))), some (iv (x2 + 1))] [] w Q)) : pX 133 4 [some (.ref 139), some (iv x1), some (iv x2)] [] w Q :=
  w_f b133 d133_4 rfl rfl rfl <| w_f b133 d133_5 rfl rfl rfl <| w_gi b133 d133_6 rfl rfl hs (tlt 139 rfl) tbC_139 rfl <| w_icge b133 d133_9 rfl rfl (p133 _ _) hx2 (bd_gI _ _ _) (fun c1 => w_f b133 d133_29 rfl rfl rfl <| w_ri b133 d133_30 r133 (h.1 c1)) (fun c1 => w_f b133 d133_12 rfl rfl rfl <| w_f b133 d133_13 rfl rfl rfl <| w_f b133 d133_14 rfl rfl rfl <| w_gr b133 d133_15 rfl rfl hs (tlt 139 rfl) tbC_139 rfl (by decide) <| w_f b133 d133_18 rfl rfl rfl <| w_ial b133 d133_19 rfl hs (tlt 141 rfl) tbC_141 (bdix (n := 60) (h.2 c1).1 rfl) (h.2 c1).1 <| w_f b133 d133_20 rfl (pf_ishl 1 (gI w 141 x2.toNat)) rfl <| w_f b133 d133_21 rfl (pf_ior x1 (iShl 1 (gI w 141 x2.toNat))) rfl <| w_f b133 d133_22 rfl rfl rfl <| w_f b133 d133_23 rfl (pf_iinc rfl rfl) rfl <| w_j b133 d133_26 rfl (p133 _ _) <| (h.2 c1).2)
/-! 180: PinBarrel$Search.putPins(LPinBarrel$Box;)V -/
theorem b180 : mB 180 = cX6_putPins := rfl
theorem r180 : mR 180 = none := rfl
theorem p180 (a b : Nat) : phi 180 a ≤ phi 180 b := Nat.le_refl 0
theorem d180_0 : decode cX6_putPins 0 = .ok (.aload_n 0, 1) := by decide +kernel
theorem d180_1 : decode cX6_putPins 1 = .ok (.getfield 28, 3) := by decide +kernel
theorem d180_4 : decode cX6_putPins 4 = .ok (.iconst 0, 1) := by decide +kernel
theorem d180_5 : decode cX6_putPins 5 = .ok (.aload_n 1, 1) := by decide +kernel
theorem d180_6 : decode cX6_putPins 6 = .ok (.getfield 62, 3) := by decide +kernel
theorem d180_9 : decode cX6_putPins 9 = .ok (.iconst 0, 1) := by decide +kernel
theorem d180_10 : decode cX6_putPins 10 = .ok (.bipush 36, 2) := by decide +kernel
theorem d180_12 : decode cX6_putPins 12 = .ok (.invokestatic 65, 3) := by decide +kernel
theorem d180_15 : decode cX6_putPins 15 = .ok (.return_, 1) := by decide +kernel
theorem v180_0 {w : PW} {Q : PO → PW → Prop} {c : Nat} (hs : Sh w) (hc : bx c) (h : ∀ w1 : PW, w1 = sCp w 142 (c + 3) 36 → Q (.inl none) w1) : pX 180 0 [some (.ref 139), some (.ref c)] [] w Q :=
  w_f b180 d180_0 rfl rfl rfl <| w_gr b180 d180_1 rfl rfl hs (tlt 139 rfl) tbC_139 rfl (by decide) <| w_f b180 d180_4 rfl rfl rfl <| w_f b180 d180_5 rfl rfl rfl <| w_gr b180 d180_6 rfl rfl hs (bx00 hc) (tb0 hc) rfl (bxr hc 3 rfl) <| w_f b180 d180_9 rfl rfl rfl <| w_f b180 d180_10 rfl rfl rfl <| w_acpL b180 d180_12 rfl rfl rfl hs (tlt 142 rfl) tbC_142 (bxk hc 3 rfl) (tb3 hc) ⟨by decide, by decide⟩ ⟨by decide, by decide, by decide⟩ <| w_rv b180 d180_15 r180 (h _ rfl)
theorem e180 {w : PW} {Q : PO → PW → Prop} {c : Nat} (hs : Sh w) (hc : bx c) (h : ∀ w1 : PW, w1 = sCp w 142 (c + 3) 36 → Q (.inl none) w1) : pC 180 [.ref 139, .ref c] w Q :=
  (pC_in (Nat.le_of_ble_eq_true rfl) rfl Q).mpr (v180_0 hs hc h)
/-- the place of a note in the order -/
theorem ordN_in {m : Row} {u : Int} : ∀ n k, k < n → rN m k 0 = u → ∃ i, i < (sOrd m u n).2 ∧ (sOrd m u n).1 i = k := by
  intro n
  induction n with
  | zero => intro k hk; exact absurd hk (Nat.not_lt_zero k)
  | succ n ih =>
    intro k hk hu
    by_cases q : rN m n 0 = u
    · rw [show sOrd m u (n + 1) = (insO m (sOrd m u n).1 (sOrd m u n).2 n, (sOrd m u n).2 + 1) from if_pos q]
      have hp := insP_le m (sOrd m u n).1 n (sOrd m u n).2
      by_cases e : k = n
      · refine ⟨insP m (sOrd m u n).1 n (sOrd m u n).2, by show _ < (sOrd m u n).2 + 1; omega, ?_⟩
        show insO _ _ _ _ _ = k
        unfold insO
        rw [if_neg (Nat.lt_irrefl _), if_pos rfl, e]
      · obtain ⟨i, h1, h2⟩ := ih k (by omega) hu
        by_cases q2 : i < insP m (sOrd m u n).1 n (sOrd m u n).2
        · refine ⟨i, by show _ < (sOrd m u n).2 + 1; omega, ?_⟩
          show insO _ _ _ _ _ = k
          unfold insO
          rw [if_pos q2, h2]
        · refine ⟨i + 1, by show _ < (sOrd m u n).2 + 1; omega, ?_⟩
          show insO _ _ _ _ _ = k
          unfold insO
          rw [if_neg (by omega), if_neg (by omega), show i + 1 - 1 = i from by omega, h2]
    · rw [show sOrd m u (n + 1) = sOrd m u n from if_neg q]
      have : k ≠ n := fun e => q (e ▸ hu)
      exact ih k (by omega) hu
theorem l130_2 {w : PW} {Q : PO → PW → Prop} {kk R : Nat} {ord : Nat → Nat} {ch : Nat → Int} (hs : Sh w) (hR : R ≤ 60) (hk : kk < 60) (h2 : gI w 139 2 = (R : Nat)) (ho : ∀ i, i < R → gI w 140 i = (ord i : Nat)) (hc : ∀ i, i < R → gI w 141 i = ch i) (hin : ∃ i, i < R ∧ ord i = kk) (h : Q (.inl (some (iv (ch (fnd (fun i => decide (ord i = kk)) R))))) w) : ∀ k i : Nat, i + k = R → (∀ j, j < i → ord j ≠ kk) → pX 130 2 [some (.ref 139), some (iv (kk : Nat)), some (iv (i : Nat))] [] w Q := by
  intro k
  induction k with
  | zero =>
    intro i hi hI
    exfalso
    obtain ⟨j, hj, he⟩ := hin
    exact hI j (by omega) he
  | succ k ih =>
    intro i hi hI
    refine v130_2 hs (bdk (by omega)) (bdk (by omega)) ?_
    rw [h2, Int.toNat_natCast, ho i (by omega), hc i (by omega)]
    refine ⟨fun q => by omega, fun _ => ⟨⟨by omega, by omega⟩, fun q => ih (i + 1) (by omega) (fun j hj => ?_), fun q => ⟨⟨by omega, by omega⟩, ?_⟩⟩⟩
    · by_cases e : j = i
      · rw [e]; intro z; exact q (by rw [z])
      · exact hI j (by omega)
    · have e : fnd (fun i => decide (ord i = kk)) R = i := fnd_eq (fun j hj => decide_eq_false (hI j hj)) (fun _ => decide_eq_true (by omega)) (by omega)
      rw [e] at h
      exact h
theorem l133_4 {w : PW} {Q : PO → PW → Prop} {R : Nat} {ch : Nat → Int} (hs : Sh w) (hR : R ≤ 60) (h2 : gI w 139 2 = (R : Nat)) (hc : ∀ i, i < R → gI w 141 i = ch i ∧ 0 ≤ ch i ∧ ch i < 12) (h : ∀ X, bd X → (∀ t, t < 32 → tI X t = decide (0 < cnt (fun k => decide (ch k = (t : Int))) R)) → Q (.inl (some (iv X))) w) : ∀ k i : Nat, i + k = R → ∀ x, bd x → (∀ t, t < 32 → tI x t = decide (0 < cnt (fun k => decide (ch k = (t : Int))) i)) → pX 133 4 [some (.ref 139), some (iv x), some (iv (i : Nat))] [] w Q := by
  intro k
  induction k with
  | zero =>
    intro i hi x hx hb
    refine v133_4 hs hx (bdk (by omega)) ?_
    rw [h2]
    refine ⟨fun _ => h x hx (fun t ht => ?_), fun q => by omega⟩
    rw [hb t ht, show i = R from by omega]
  | succ k ih =>
    intro i hi x hx hb
    obtain ⟨c1, c2, c3⟩ := hc i (by omega)
    refine v133_4 hs hx (bdk (by omega)) ?_
    rw [h2, Int.toNat_natCast, c1]
    refine ⟨fun q => by omega, fun _ => ⟨⟨by omega, by omega⟩, ih (i + 1) (by omega) _ (bd_toInt _) (fun t ht => ?_)⟩⟩
    rw [tI_or, hb t ht, tI_bit ⟨c2, by omega⟩ ht, cnt_s]
    by_cases e : ch i = (t : Int)
    · rw [decide_eq_true e, if_pos rfl, decide_eq_true (p := t = (ch i).toNat) (by omega), Bool.or_true, decide_eq_true (by omega)]
    · rw [decide_eq_false e, if_neg Bool.false_ne_true, decide_eq_false (p := t = (ch i).toNat) (by omega), Bool.or_false, Nat.add_zero]
theorem c130 {w : PW} {Q : PO → PW → Prop} {k : Nat} {m : Row} {u : Nat} {r : Int × SS} (hs : Sh w) (hR : RowOK m) (hk : (k : Int) < m 5) (hku : rN m k 0 = u) (hF : SkF w m u r) (h1 : r.1 = 1) (h : Q (.inl (some (iv (r.2.2.2 (fnd (fun i => decide (ordN m u i = k)) (ordR m u)))))) w) : pC 130 [.ref 139, iv (k : Nat)] w Q := by
  have h5 := hR.n
  obtain ⟨f0, f1, f2, f3, f4⟩ := hF
  obtain ⟨g1, g2, g3⟩ := f4 h1
  exact e130 hs (bdk (by omega)) (l130_2 hs (ordR_le hR u) (by omega) f2 f3 g1 (ordN_in (m 5).toNat k (by omega) hku) h (ordR m u) 0 (Nat.zero_add _) (fun j hj => absurd hj (Nat.not_lt_zero j)))
theorem c133 {w : PW} {Q : PO → PW → Prop} {m : Row} {u : Nat} {r : Int × SS} (hs : Sh w) (hR : RowOK m) (hF : SkF w m u r) (h1 : r.1 = 1) (h : ∀ X, bd X → (∀ t, t < 32 → tI X t = decide (0 < cnt (fun k => decide (r.2.2.2 k = (t : Int))) (ordR m u))) → Q (.inl (some (iv X))) w) : pC 133 [.ref 139] w Q := by
  have h4 := hR.t
  obtain ⟨f0, f1, f2, f3, f4⟩ := hF
  obtain ⟨g1, g2, g3⟩ := f4 h1
  exact e133 hs (l133_4 hs (ordR_le hR u) f2 (fun i hi => ⟨g1 i hi, (g3.1 i hi).1, by have := (g3.1 i hi).2; omega⟩) h (ordR m u) 0 (Nat.zero_add _) 0 bd0 (fun t _ => by rw [tI_0]; rfl))
/-- the pins of a layout in place of those of the tune -/
def sLayG (m : Row) (u : Nat) (ch : Nat → Int) (g : Nat → Int) : Prop := ∀ s : Nat, (s : Int) < m 0 → bd (g s) ∧ ∀ t, t < 32 → tI (g s) t = (decide ((t : Int) < m 4) && sLaid m u ch (ordR m u) ((m 1).toNat * t + u) s)
theorem c180 {w : PW} {Q : PO → PW → Prop} {b : Nat} {m : Row} {u : Nat} {r : Int × SS} {g : Nat → Int} (hs : Sh w) (hB : BR w b m) (hu : (u : Int) < m 1) (hF : SkF w m u r) (h1 : r.1 = 1) (hg : sLayG m u r.2.2.2 g) (h : ∀ w2, Sh w2 → BR w2 b (rSetP m u g) → OB b w w2 → Q (.inl none) w2) : pC 180 [.ref 139, .ref b] w Q := by
  have hR := hB.ok
  have h0 := hR.s
  have hu1 := hR.u
  have a0 := bx_lt hB.bx
  obtain ⟨f0, f1, f2, f3, f4⟩ := hF
  obtain ⟨g1, g2, g3⟩ := f4 h1
  refine e180 hs hB.bx (fun w1 e1 => ?_)
  obtain ⟨s1, l1, -, k1⟩ := stD e1 hs (by omega) tbC_142 (by omega) (tb3 hB.bx)
  refine h w1 s1 (hB.setP hu k1 (fun s hs9 => ⟨(hg s hs9).1, fun t ht q => ?_⟩) (fun j s hj hs9 => ?_)) (fun c hc => k1 c (by omega))
  · rw [(hg s hs9).2 t ht, Bool.and_eq_true, decide_eq_true_eq] at q
    exact q.1
  · rw [l1, if_pos ⟨rfl, hj⟩, g2 j s hj hs9]
    by_cases q : j % (m 1).toNat = u ∧ j < (m 1).toNat * (m 4).toNat
    · rw [if_pos q, if_pos q]
      have e3 := Nat.div_add_mod j (m 1).toNat
      rw [q.1] at e3
      have q4 : j / (m 1).toNat < (m 4).toNat := by rw [Nat.div_lt_iff_lt_mul (by omega), Nat.mul_comm]; exact q.2
      have h4 := hR.t
      by_cases q2 : s < (m 0).toNat
      · rw [(hg s (by omega)).2 _ (by omega), e3, decide_eq_true q2, decide_eq_true (by omega)]; rfl
      · rw [decide_eq_false q2, Bool.false_and]
        cases q3 : sLaid m u r.2.2.2 (ordR m u) j s with
        | false => rfl
        | true =>
          obtain ⟨k, hk, -, hr⟩ := sLaid_iff.mp q3
          have := sStp_bd hR hk
          omega
    · rw [if_neg q, if_neg q, hB.P hj hs9]
/-- notes of a tune with a pitch in a row of steps around -/
def sRowP (m : Row) (u p f k : Int) (i : Nat) : Bool := decide (rN m i 0 = u ∧ rN m i 2 = p) && decide ((if rN m i 1 - f < 0 then rN m i 1 - f + m 0 else rN m i 1 - f) < k)
def sInRow (m : Row) (u p f k : Int) : Nat := cnt (sRowP m u p f k) (m 5).toNat
/-! 151: PinBarrel$Box.notesInRow(IIII)I -/
theorem b151 : mB 151 = cX0_notesInRow := rfl
theorem r151 : mR 151 = (some .int) := rfl
theorem p151 (a b : Nat) : phi 151 a ≤ phi 151 b := Nat.le_refl 0
theorem d151_0 : decode cX0_notesInRow 0 = .ok (.iconst 0, 1) := by decide +kernel
theorem d151_1 : decode cX0_notesInRow 1 = .ok (.istore 5, 2) := by decide +kernel
theorem d151_3 : decode cX0_notesInRow 3 = .ok (.iconst 0, 1) := by decide +kernel
theorem d151_4 : decode cX0_notesInRow 4 = .ok (.istore 6, 2) := by decide +kernel
theorem d151_6 : decode cX0_notesInRow 6 = .ok (.iload 6, 2) := by decide +kernel
theorem d151_8 : decode cX0_notesInRow 8 = .ok (.aload_n 0, 1) := by decide +kernel
theorem d151_9 : decode cX0_notesInRow 9 = .ok (.getfield 41, 3) := by decide +kernel
theorem d151_12 : decode cX0_notesInRow 12 = .ok (.getfield 71, 3) := by decide +kernel
theorem d151_15 : decode cX0_notesInRow 15 = .ok (.if_icmp .ge 80, 3) := by decide +kernel
theorem d151_18 : decode cX0_notesInRow 18 = .ok (.aload_n 0, 1) := by decide +kernel
theorem d151_19 : decode cX0_notesInRow 19 = .ok (.getfield 41, 3) := by decide +kernel
theorem d151_22 : decode cX0_notesInRow 22 = .ok (.getfield 166, 3) := by decide +kernel
theorem d151_25 : decode cX0_notesInRow 25 = .ok (.iload 6, 2) := by decide +kernel
theorem d151_27 : decode cX0_notesInRow 27 = .ok (.iaload, 1) := by decide +kernel
theorem d151_28 : decode cX0_notesInRow 28 = .ok (.iload_n 3, 1) := by decide +kernel
theorem d151_29 : decode cX0_notesInRow 29 = .ok (.isub, 1) := by decide +kernel
theorem d151_30 : decode cX0_notesInRow 30 = .ok (.istore 7, 2) := by decide +kernel
theorem d151_32 : decode cX0_notesInRow 32 = .ok (.iload 7, 2) := by decide +kernel
theorem d151_34 : decode cX0_notesInRow 34 = .ok (.ifCond .ge 13, 3) := by decide +kernel
theorem d151_37 : decode cX0_notesInRow 37 = .ok (.iload 7, 2) := by decide +kernel
theorem d151_39 : decode cX0_notesInRow 39 = .ok (.aload_n 0, 1) := by decide +kernel
theorem d151_40 : decode cX0_notesInRow 40 = .ok (.getfield 9, 3) := by decide +kernel
theorem d151_43 : decode cX0_notesInRow 43 = .ok (.iadd, 1) := by decide +kernel
theorem d151_44 : decode cX0_notesInRow 44 = .ok (.goto 5, 3) := by decide +kernel
theorem d151_47 : decode cX0_notesInRow 47 = .ok (.iload 7, 2) := by decide +kernel
theorem d151_49 : decode cX0_notesInRow 49 = .ok (.istore 8, 2) := by decide +kernel
theorem d151_51 : decode cX0_notesInRow 51 = .ok (.aload_n 0, 1) := by decide +kernel
theorem d151_52 : decode cX0_notesInRow 52 = .ok (.getfield 41, 3) := by decide +kernel
theorem d151_55 : decode cX0_notesInRow 55 = .ok (.getfield 163, 3) := by decide +kernel
theorem d151_58 : decode cX0_notesInRow 58 = .ok (.iload 6, 2) := by decide +kernel
theorem d151_60 : decode cX0_notesInRow 60 = .ok (.iaload, 1) := by decide +kernel
theorem d151_61 : decode cX0_notesInRow 61 = .ok (.iload_n 1, 1) := by decide +kernel
theorem d151_62 : decode cX0_notesInRow 62 = .ok (.if_icmp .ne 27, 3) := by decide +kernel
theorem d151_65 : decode cX0_notesInRow 65 = .ok (.aload_n 0, 1) := by decide +kernel
theorem d151_66 : decode cX0_notesInRow 66 = .ok (.getfield 41, 3) := by decide +kernel
theorem d151_69 : decode cX0_notesInRow 69 = .ok (.getfield 162, 3) := by decide +kernel
theorem d151_72 : decode cX0_notesInRow 72 = .ok (.iload 6, 2) := by decide +kernel
theorem d151_74 : decode cX0_notesInRow 74 = .ok (.iaload, 1) := by decide +kernel
theorem d151_75 : decode cX0_notesInRow 75 = .ok (.iload_n 2, 1) := by decide +kernel
theorem d151_76 : decode cX0_notesInRow 76 = .ok (.if_icmp .ne 13, 3) := by decide +kernel
theorem d151_79 : decode cX0_notesInRow 79 = .ok (.iload 8, 2) := by decide +kernel
theorem d151_81 : decode cX0_notesInRow 81 = .ok (.iload 4, 2) := by decide +kernel
theorem d151_83 : decode cX0_notesInRow 83 = .ok (.if_icmp .ge 6, 3) := by decide +kernel
theorem d151_86 : decode cX0_notesInRow 86 = .ok (.iinc 5 1, 3) := by decide +kernel
theorem d151_89 : decode cX0_notesInRow 89 = .ok (.iinc 6 1, 3) := by decide +kernel
theorem d151_92 : decode cX0_notesInRow 92 = .ok (.goto (-86), 3) := by decide +kernel
theorem d151_95 : decode cX0_notesInRow 95 = .ok (.iload 5, 2) := by decide +kernel
theorem d151_97 : decode cX0_notesInRow 97 = .ok (.ireturn, 1) := by decide +kernel
theorem v151_0 {w : PW} {Q : PO → PW → Prop} {b : Nat} {x1 : Int} {x2 : Int} {x3 : Int} {x4 : Int} (hs : Sh w) (hb : bx b) (hx1 : bd x1) (hx2 : bd x2) (hx3 : bd x3) (hx4 : bd x4) (h : pX 151 6 [some (.ref b), some (iv x1), some (iv x2), some (iv x3), some (iv x4), some (iv 0), some (iv 0), none, none] [] w Q) : pX 151 0 [some (.ref b), some (iv x1), some (iv x2), some (iv x3), some (iv x4), none, none, none, none] [] w Q :=
  w_f b151 d151_0 rfl rfl rfl <| w_f b151 d151_1 rfl rfl rfl <| w_f b151 d151_3 rfl rfl rfl <| w_f b151 d151_4 rfl rfl rfl <| h
theorem e151 {w : PW} {Q : PO → PW → Prop} {b : Nat} {x1 : Int} {x2 : Int} {x3 : Int} {x4 : Int} (hs : Sh w) (hb : bx b) (hx1 : bd x1) (hx2 : bd x2) (hx3 : bd x3) (hx4 : bd x4) (h : pX 151 6 [some (.ref b), some (iv x1), some (iv x2), some (iv x3), some (iv x4), some (iv 0), some (iv 0), none, none] [] w Q) : pC 151 [.ref b, iv x1, iv x2, iv x3, iv x4] w Q :=
  (pC_in (Nat.le_of_ble_eq_true rfl) rfl Q).mpr (v151_0 hs hb hx1 hx2 hx3 hx4 h)
theorem v151_6 {w : PW} {Q : PO → PW → Prop} {b : Nat} {x1 : Int} {x2 : Int} {x3 : Int} {x4 : Int} {x5 : Int} {x6 : Int} {o7 : Option Value} {o8 : Option Value} (hs : Sh w) (hb : bx b) (hx1 : bd x1) (hx2 : bd x2) (hx3 : bd x3) (hx4 : bd x4) (hx5 : bd x5) (hx6 : bd x6) (ho7 : pc2 o7 = false) (ho8 : pc2 o8 = false) (h : ((gI w (b + 4) 0) ≤ x6 → Q (.inl (some (iv x5))) w) ∧ (x6 < (gI w (b + 4) 0) → (0 ≤ x6 ∧ x6 < 60) ∧ (bd ((gI w (b + 6) x6.toNat) - x3)) ∧ (0 ≤ ((gI w (b + 6) x6.toNat) - x3) → (0 ≤ x6 ∧ x6 < 60) ∧ ((gI w (b + 5) x6.toNat) ≠ x1 → pX 151 6 [some (.ref b), some (iv x1), some (iv x2), some (iv x3), some (iv x4), some (iv x5), some (iv (x6 + 1)), some (iv ((gI w (b + 6) x6.toNat) - x3)), some (iv ((gI w (b + 6) x6.toNat) - x3))] [] w Q) ∧ ((gI w (b + 5) x6.toNat) = x1 → (0 ≤ x6 ∧ x6 < 60) ∧ ((gI w (b + 7) x6.toNat) ≠ x2 → pX 151 6 [some (.ref b), some (iv x1), some (iv x2), some (iv x3), some (iv x4), some (iv x5), some (iv (x6 + 1)), some (iv ((gI w (b + 6) x6.toNat) - x3)), some (iv ((gI w (b + 6) x6.toNat) - x3))] [] w Q) ∧ ((gI w (b + 7) x6.toNat) = x2 → (bd ((gI w (b + 6) x6.toNat) - x3)) ∧ (x4 ≤ ((gI w (b + 6) x6.toNat) - x3) → pX 151 6 [some (.ref b), some (iv x1), some (iv x2), some (iv x3), some (iv x4), some (iv x5), some (iv (x6 + 1)), some (iv ((gI w (b + 6) x6.toNat) - x3)), some (iv ((gI w (b + 6) x6.toNat) - x3))] [] w Q) ∧ (((gI w (b + 6) x6.toNat) - x3) < x4 → pX 151 6 [some (.ref b), some (iv x1), some (iv x2), some (iv x3), some (iv x4), some (iv (x5 + 1)), some (iv (x6 + 1)), some (iv ((gI w (b + 6) x6.toNat) - x3)), some (iv ((gI w (b + 6) x6.toNat) - x3))] [] w Q)))) ∧ (((gI w (b + 6) x6.toNat) - x3) < 0 → (0 ≤ x6 ∧ x6 < 60) ∧ ((gI w (b + 5) x6.toNat) ≠ x1 → pX 151 6 [some (.ref b), some (iv x1), some (iv x2), some (iv x3), some (iv x4), some (iv x5), some (iv (x6 + 1)), some (iv ((gI w (b + 6) x6.toNat) - x3)), some (iv (((gI w (b + 6) x6.toNat) - x3) + (gI w b 0)))] [] w Q) ∧ ((gI w (b + 5) x6.toNat) = x1 → (0 ≤ x6 ∧ x6 < 60) ∧ ((gI w (b + 7) x6.toNat) ≠ x2 → pX 151 6 [some (.ref b), some (iv x1), some (iv x2), some (iv x3), some (iv x4), some (iv x5), some (iv (x6 + 1)), some (iv ((gI w (b + 6) x6.toNat) - x3)), some (iv (((gI w (b + 6) x6.toNat) - x3) + (gI w b 0)))] [] w Q) ∧ ((gI w (b + 7) x6.toNat) = x2 → (bd (((gI w (b + 6) x6.toNat) - x3) + (gI w b 0))) ∧ (x4 ≤ (((gI w (b + 6) x6.toNat) - x3) + (gI w b 0)) → pX 151 6 [some (.ref b), some (iv x1), some (iv x2), some (iv x3), some (iv x4), some (iv x5), some (iv (x6 + 1)), some (iv ((gI w (b + 6) x6.toNat) - x3)), some (iv (((gI w (b + 6) x6.toNat) - x3) + (gI w b 0)))] [] w Q) ∧ ((((gI w (b + 6) x6.toNat) - x3) + (gI w b 0)) < x4 → pX 151 6 [some (.ref b), some (iv x1), some (iv x2), some (iv x3), some (iv x4), some (iv (x5 + 1)), some (iv (x6 + 1)), some (iv ((gI w (b + 6) x6.toNat) - x3)), some (iv (((gI w (b + 6) x6.toNat) - x3) + (gI w b 0)))] [] w Q)))))) : pX 151 6 [some (.ref b), some (iv x1), some (iv x2), some (iv x3), some (iv x4), some (iv x5), some (iv x6), o7, o8] [] w Q :=
  w_f b151 d151_6 rfl rfl rfl <| w_f b151 d151_8 rfl rfl rfl <| w_gr b151 d151_9 rfl rfl hs (bx00 hb) (tb0 hb) rfl (bxr hb 4 rfl) <| w_gi b151 d151_12 rfl rfl hs (bxk hb 4 rfl) (tb4 hb) rfl <| w_icge b151 d151_15 rfl rfl (p151 _ _) hx6 (bd_gI _ _ _) (fun c1 => w_f b151 d151_95 rfl rfl rfl <| w_ri b151 d151_97 r151 (h.1 c1)) (fun c1 => w_f b151 d151_18 rfl rfl rfl <| w_gr b151 d151_19 rfl rfl hs (bx00 hb) (tb0 hb) rfl (bxr hb 4 rfl) <| w_gr b151 d151_22 rfl rfl hs (bxk hb 4 rfl) (tb4 hb) rfl (bxr hb 6 rfl) <| w_f b151 d151_25 rfl rfl rfl <| w_ial b151 d151_27 rfl hs (bxk hb 6 rfl) (tb6 hb) (bdix (n := 60) (h.2 c1).1 rfl) (h.2 c1).1 <| w_f b151 d151_28 rfl rfl rfl <| w_f b151 d151_29 rfl (pf_isub (gI w (b + 6) x6.toNat) x3) rfl <| w_f b151 d151_30 rfl rfl rfl <| w_f b151 d151_32 rfl rfl rfl <| w_ifge b151 d151_34 rfl rfl (p151 _ _) (h.2 c1).2.1 (fun c2 => w_f b151 d151_47 rfl rfl rfl <| w_f b151 d151_49 rfl rfl rfl <| w_f b151 d151_51 rfl rfl rfl <| w_gr b151 d151_52 rfl rfl hs (bx00 hb) (tb0 hb) rfl (bxr hb 4 rfl) <| w_gr b151 d151_55 rfl rfl hs (bxk hb 4 rfl) (tb4 hb) rfl (bxr hb 5 rfl) <| w_f b151 d151_58 rfl rfl rfl <| w_ial b151 d151_60 rfl hs (bxk hb 5 rfl) (tb5 hb) (bdix (n := 60) ((h.2 c1).2.2.1 c2).1 rfl) ((h.2 c1).2.2.1 c2).1 <| w_f b151 d151_61 rfl rfl rfl <| w_icne b151 d151_62 rfl rfl (p151 _ _) (bd_gI _ _ _) hx1 (fun c3 => w_f b151 d151_89 rfl (pf_iinc rfl rfl) rfl <| w_j b151 d151_92 rfl (p151 _ _) <| (((h.2 c1).2.2.1 c2).2.1 c3)) (fun c3 => w_f b151 d151_65 rfl rfl rfl <| w_gr b151 d151_66 rfl rfl hs (bx00 hb) (tb0 hb) rfl (bxr hb 4 rfl) <| w_gr b151 d151_69 rfl rfl hs (bxk hb 4 rfl) (tb4 hb) rfl (bxr hb 7 rfl) <| w_f b151 d151_72 rfl rfl rfl <| w_ial b151 d151_74 rfl hs (bxk hb 7 rfl) (tb7 hb) (bdix (n := 60) (((h.2 c1).2.2.1 c2).2.2 c3).1 rfl) (((h.2 c1).2.2.1 c2).2.2 c3).1 <| w_f b151 d151_75 rfl rfl rfl <| w_icne b151 d151_76 rfl rfl (p151 _ _) (bd_gI _ _ _) hx2 (fun c4 => w_f b151 d151_89 rfl (pf_iinc rfl rfl) rfl <| w_j b151 d151_92 rfl (p151 _ _) <| ((((h.2 c1).2.2.1 c2).2.2 c3).2.1 c4)) (fun c4 => w_f b151 d151_79 rfl rfl rfl <| w_f b151 d151_81 rfl rfl rfl <| w_icge b151 d151_83 rfl rfl (p151 _ _) ((((h.2 c1).2.2.1 c2).2.2 c3).2.2 c4).1 hx4 (fun c5 => w_f b151 d151_89 rfl (pf_iinc rfl rfl) rfl <| w_j b151 d151_92 rfl (p151 _ _) <| (((((h.2 c1).2.2.1 c2).2.2 c3).2.2 c4).2.1 c5)) (fun c5 => w_f b151 d151_86 rfl (pf_iinc rfl rfl) rfl <| w_f b151 d151_89 rfl (pf_iinc rfl rfl) rfl <| w_j b151 d151_92 rfl (p151 _ _) <| (((((h.2 c1).2.2.1 c2).2.2 c3).2.2 c4).2.2 c5))))) (fun c2 => w_f b151 d151_37 rfl rfl rfl <| w_f b151 d151_39 rfl rfl rfl <| w_gi b151 d151_40 rfl rfl hs (bx00 hb) (tb0 hb) rfl <| w_f b151 d151_43 rfl (pf_iadd ((gI w (b + 6) x6.toNat) - x3) (gI w b 0)) rfl <| w_j b151 d151_44 rfl (p151 _ _) <| w_f b151 d151_49 rfl rfl rfl <| w_f b151 d151_51 rfl rfl rfl <| w_gr b151 d151_52 rfl rfl hs (bx00 hb) (tb0 hb) rfl (bxr hb 4 rfl) <| w_gr b151 d151_55 rfl rfl hs (bxk hb 4 rfl) (tb4 hb) rfl (bxr hb 5 rfl) <| w_f b151 d151_58 rfl rfl rfl <| w_ial b151 d151_60 rfl hs (bxk hb 5 rfl) (tb5 hb) (bdix (n := 60) ((h.2 c1).2.2.2 c2).1 rfl) ((h.2 c1).2.2.2 c2).1 <| w_f b151 d151_61 rfl rfl rfl <| w_icne b151 d151_62 rfl rfl (p151 _ _) (bd_gI _ _ _) hx1 (fun c6 => w_f b151 d151_89 rfl (pf_iinc rfl rfl) rfl <| w_j b151 d151_92 rfl (p151 _ _) <| (((h.2 c1).2.2.2 c2).2.1 c6)) (fun c6 => w_f b151 d151_65 rfl rfl rfl <| w_gr b151 d151_66 rfl rfl hs (bx00 hb) (tb0 hb) rfl (bxr hb 4 rfl) <| w_gr b151 d151_69 rfl rfl hs (bxk hb 4 rfl) (tb4 hb) rfl (bxr hb 7 rfl) <| w_f b151 d151_72 rfl rfl rfl <| w_ial b151 d151_74 rfl hs (bxk hb 7 rfl) (tb7 hb) (bdix (n := 60) (((h.2 c1).2.2.2 c2).2.2 c6).1 rfl) (((h.2 c1).2.2.2 c2).2.2 c6).1 <| w_f b151 d151_75 rfl rfl rfl <| w_icne b151 d151_76 rfl rfl (p151 _ _) (bd_gI _ _ _) hx2 (fun c7 => w_f b151 d151_89 rfl (pf_iinc rfl rfl) rfl <| w_j b151 d151_92 rfl (p151 _ _) <| ((((h.2 c1).2.2.2 c2).2.2 c6).2.1 c7)) (fun c7 => w_f b151 d151_79 rfl rfl rfl <| w_f b151 d151_81 rfl rfl rfl <| w_icge b151 d151_83 rfl rfl (p151 _ _) ((((h.2 c1).2.2.2 c2).2.2 c6).2.2 c7).1 hx4 (fun c8 => w_f b151 d151_89 rfl (pf_iinc rfl rfl) rfl <| w_j b151 d151_92 rfl (p151 _ _) <| (((((h.2 c1).2.2.2 c2).2.2 c6).2.2 c7).2.1 c8)) (fun c8 => w_f b151 d151_86 rfl (pf_iinc rfl rfl) rfl <| w_f b151 d151_89 rfl (pf_iinc rfl rfl) rfl <| w_j b151 d151_92 rfl (p151 _ _) <| (((((h.2 c1).2.2.2 c2).2.2 c6).2.2 c7).2.2 c8))))))
theorem l151_6 {w : PW} {Q : PO → PW → Prop} {b : Nat} {m : Row} {u p f k0 : Int} (hs : Sh w) (hB : BR w b m) (hu : bd u) (hp : bd p) (hf : 0 ≤ f ∧ f < m 0) (hk : bd k0) (h : Q (.inl (some (iv (sInRow m u p f k0 : Nat)))) w) : ∀ k i : Nat, i + k = (m 5).toNat → ∀ o7 o8 : Option Value, pc2 o7 = false → pc2 o8 = false → pX 151 6 [some (.ref b), some (iv u), some (iv p), some (iv f), some (iv k0), some (iv (cnt (sRowP m u p f k0) i : Nat)), some (iv (i : Nat)), o7, o8] [] w Q := by
  have h5 := hB.ok.n
  have h0 := hB.ok.s
  intro k
  induction k with
  | zero =>
    intro i hi o7 o8 h7 h8
    refine v151_6 hs hB.bx hu hp ⟨by omega, by omega⟩ hk (bdk (Nat.le_trans (cnt_le _ _) (by omega))) (bdk (by omega)) h7 h8 ?_
    rw [hB.n]
    refine ⟨fun _ => ?_, fun q => by omega⟩
    unfold sInRow at h
    rw [show (m 5).toNat = i from by omega] at h
    exact h
  | succ k ih =>
    intro i hi o7 o8 h7 h8
    obtain ⟨e1, e2, e3⟩ := hB.N (i := i) (by omega)
    obtain ⟨b1, b2, b3⟩ := hB.ok.N (i := i) (by omega)
    have hb6 : 0 ≤ (i : Int) ∧ (i : Int) < 60 := ⟨by omega, by omega⟩
    refine v151_6 hs hB.bx hu hp ⟨by omega, by omega⟩ hk (bdk (Nat.le_trans (cnt_le _ _) (by omega))) (bdk (by omega)) h7 h8 ?_
    rw [hB.n, hB.s, Int.toNat_natCast, e1, e2, e3]
    have hF : ∀ z1 z2, sRowP m u p f k0 i = false → pX 151 6 [some (.ref b), some (iv u), some (iv p), some (iv f), some (iv k0), some (iv (cnt (sRowP m u p f k0) i : Nat)), some (iv ((i : Int) + 1)), some (iv z1), some (iv z2)] [] w Q := fun z1 z2 q => by
      have := ih (i + 1) (by omega) (some (iv z1)) (some (iv z2)) rfl rfl
      rw [cnt_f q] at this
      exact this
    have hT : ∀ z1 z2, sRowP m u p f k0 i = true → pX 151 6 [some (.ref b), some (iv u), some (iv p), some (iv f), some (iv k0), some (iv ((cnt (sRowP m u p f k0) i : Nat) + 1)), some (iv ((i : Int) + 1)), some (iv z1), some (iv z2)] [] w Q := fun z1 z2 q => by
      have := ih (i + 1) (by omega) (some (iv z1)) (some (iv z2)) rfl rfl
      rw [cnt_t q] at this
      exact this
    have hn : ∀ x : Prop, [Decidable x] → ¬ (rN m i 0 = u ∧ rN m i 2 = p) → (decide (rN m i 0 = u ∧ rN m i 2 = p) && decide x) = false := fun x _ q => by rw [decide_eq_false q, Bool.false_and]
    have hy : rN m i 0 = u → rN m i 2 = p → sRowP m u p f k0 i = decide ((if rN m i 1 - f < 0 then rN m i 1 - f + m 0 else rN m i 1 - f) < k0) := fun q1 q2 => by
      unfold sRowP
      rw [decide_eq_true ⟨q1, q2⟩, Bool.true_and]
    have hno : ¬ (rN m i 0 = u ∧ rN m i 2 = p) → sRowP m u p f k0 i = false := fun q => by
      unfold sRowP
      rw [decide_eq_false q, Bool.false_and]
    refine ⟨fun q => by omega, fun _ => ⟨hb6, ⟨by omega, by omega⟩, fun c => ⟨hb6, fun q => hF _ _ (hno (fun z => q z.1)), fun q => ⟨hb6, fun q2 => hF _ _ (hno (fun z => q2 z.2)), fun q2 => ⟨⟨by omega, by omega⟩, fun q3 => hF _ _ ?_, fun q3 => hT _ _ ?_⟩⟩⟩, fun c => ⟨hb6, fun q => hF _ _ (hno (fun z => q z.1)), fun q => ⟨hb6, fun q2 => hF _ _ (hno (fun z => q2 z.2)), fun q2 => ⟨⟨by omega, by omega⟩, fun q3 => hF _ _ ?_, fun q3 => hT _ _ ?_⟩⟩⟩⟩⟩
    · rw [hy q q2, if_neg (by omega)]; exact decide_eq_false (by omega)
    · rw [hy q q2, if_neg (by omega)]; exact decide_eq_true (by omega)
    · rw [hy q q2, if_pos c]; exact decide_eq_false (by omega)
    · rw [hy q q2, if_pos c]; exact decide_eq_true (by omega)
theorem c151 {w : PW} {Q : PO → PW → Prop} {b : Nat} {m : Row} {u p f k0 : Int} (hs : Sh w) (hB : BR w b m) (hu : bd u) (hp : bd p) (hf : 0 ≤ f ∧ f < m 0) (hk : bd k0) (h : Q (.inl (some (iv (sInRow m u p f k0 : Nat)))) w) : pC 151 [.ref b, iv u, iv p, iv f, iv k0] w Q := by
  have h0 := hB.ok.s
  exact e151 hs hB.bx hu hp ⟨by omega, by omega⟩ hk (l151_6 hs hB hu hp hf hk h (m 5).toNat 0 (Nat.zero_add _) none none rfl rfl)
/-! the writer -/
def WR (w : PW) (o : Nat → Int) (n : Nat) : Prop := gI w 137 1 = n ∧ n ≤ 400 ∧ ∀ k, k < n → gI w 138 k = o k
def oPut (o : Nat → Int) (n : Nat) (z : Int) : Nat → Int := fun k => if k = n then z else o k
/-- nothing but the output has changed -/
def WF (w w' : PW) : Prop := ∀ c, ¬ (137 ≤ c ∧ c ≤ 138) → w'.2.2 c = w.2.2 c
theorem WF.rf {w : PW} : WF w w := fun _ _ => rfl
theorem WF.tr {w w1 w2 : PW} (h1 : WF w w1) (h2 : WF w1 w2) : WF w w2 := fun c hc => (h2 c hc).trans (h1 c hc)
theorem WF.br {w w' : PW} {b : Nat} {m : Row} (h : WF w w') (hB : BR w b m) : BR w' b m := by
  have := bx_at hB.bx
  exact hB.cells (fun k hk => h _ (by omega))
theorem nar_c : ∀ z : Nat, z < 256 → vp_nar .char (Int32.ofInt (z : Int)) = Int32.ofInt (z : Int) := by decide +kernel
theorem i2C_id : ∀ z : Nat, z < 256 → i2C (z : Int) = (z : Int) := by decide +kernel
/-! 205: PinBarrel$Writer.put(C)V -/
theorem b205 : mB 205 = cX7_put := rfl
theorem r205 : mR 205 = none := rfl
theorem p205 (a b : Nat) : phi 205 a ≤ phi 205 b := Nat.le_refl 0
theorem d205_0 : decode cX7_put 0 = .ok (.aload_n 0, 1) := by decide +kernel
theorem d205_1 : decode cX7_put 1 = .ok (.getfield 15, 3) := by decide +kernel
theorem d205_4 : decode cX7_put 4 = .ok (.sipush 400, 3) := by decide +kernel
theorem d205_7 : decode cX7_put 7 = .ok (.if_icmp .ge 23, 3) := by decide +kernel
theorem d205_10 : decode cX7_put 10 = .ok (.aload_n 0, 1) := by decide +kernel
theorem d205_11 : decode cX7_put 11 = .ok (.getfield 9, 3) := by decide +kernel
theorem d205_14 : decode cX7_put 14 = .ok (.aload_n 0, 1) := by decide +kernel
theorem d205_15 : decode cX7_put 15 = .ok (.getfield 15, 3) := by decide +kernel
theorem d205_18 : decode cX7_put 18 = .ok (.iload_n 1, 1) := by decide +kernel
theorem d205_19 : decode cX7_put 19 = .ok (.castore, 1) := by decide +kernel
theorem d205_20 : decode cX7_put 20 = .ok (.aload_n 0, 1) := by decide +kernel
theorem d205_21 : decode cX7_put 21 = .ok (.dup, 1) := by decide +kernel
theorem d205_22 : decode cX7_put 22 = .ok (.getfield 15, 3) := by decide +kernel
theorem d205_25 : decode cX7_put 25 = .ok (.iconst 1, 1) := by decide +kernel
theorem d205_26 : decode cX7_put 26 = .ok (.iadd, 1) := by decide +kernel
theorem d205_27 : decode cX7_put 27 = .ok (.putfield 15, 3) := by decide +kernel
theorem d205_30 : decode cX7_put 30 = .ok (.return_, 1) := by decide +kernel
theorem v205_0 {w : PW} {Q : PO → PW → Prop} {x1 : Int} (hs : Sh w) (hx1 : bd x1) (h : (400 ≤ (gI w 137 1) → Q (.inl none) w) ∧ ((gI w 137 1) < 400 → (0 ≤ (gI w 137 1) ∧ (gI w 137 1) < 400) ∧ (vp_nar .char (Int32.ofInt x1) = Int32.ofInt x1) ∧ ∀ w2 : PW, w2 = sI w 138 (gI w 137 1).toNat x1 → ∀ w3 : PW, w3 = sI w2 137 1 ((gI w2 137 1) + 1) → Q (.inl none) w3)) : pX 205 0 [some (.ref 137), some (iv x1)] [] w Q :=
  w_f b205 d205_0 rfl rfl rfl <| w_gi b205 d205_1 rfl rfl hs (tlt 137 rfl) tbC_137 rfl <| w_f b205 d205_4 rfl rfl rfl <| w_icge b205 d205_7 rfl rfl (p205 _ _) (bd_gI _ _ _) ⟨by decide, by decide⟩ (fun c1 => w_rv b205 d205_30 r205 (h.1 c1)) (fun c1 => w_f b205 d205_10 rfl rfl rfl <| w_gr b205 d205_11 rfl rfl hs (tlt 137 rfl) tbC_137 rfl (by decide) <| w_f b205 d205_14 rfl rfl rfl <| w_gi b205 d205_15 rfl rfl hs (tlt 137 rfl) tbC_137 rfl <| w_f b205 d205_18 rfl rfl rfl <| w_cas b205 d205_19 rfl hs (tlt 138 rfl) tbC_138 (bdix (n := 400) (h.2 c1).1 rfl) (h.2 c1).1 (h.2 c1).2.1 <| w_f b205 d205_20 rfl rfl rfl <| w_f b205 d205_21 rfl rfl rfl <| w_gi b205 d205_22 rfl rfl (Sh_sI hs (slt_a tbC_138)) (tlt 137 rfl) tbC_137 rfl <| w_f b205 d205_25 rfl rfl rfl <| w_f b205 d205_26 rfl (pf_iadd _ 1) rfl <| w_pi b205 d205_27 rfl rfl (Sh_sI hs (slt_a tbC_138)) (tlt 137 rfl) tbC_137 rfl rfl rfl <| w_rv b205 d205_30 r205 (((h.2 c1).2.2 _ rfl) _ rfl))
theorem e205 {w : PW} {Q : PO → PW → Prop} {x1 : Int} (hs : Sh w) (hx1 : bd x1) (h : (400 ≤ (gI w 137 1) → Q (.inl none) w) ∧ ((gI w 137 1) < 400 → (0 ≤ (gI w 137 1) ∧ (gI w 137 1) < 400) ∧ (vp_nar .char (Int32.ofInt x1) = Int32.ofInt x1) ∧ ∀ w2 : PW, w2 = sI w 138 (gI w 137 1).toNat x1 → ∀ w3 : PW, w3 = sI w2 137 1 ((gI w2 137 1) + 1) → Q (.inl none) w3)) : pC 205 [.ref 137, iv x1] w Q :=
  (pC_in (Nat.le_of_ble_eq_true rfl) rfl Q).mpr (v205_0 hs hx1 h)
/-! 206: PinBarrel$Writer.putPitch(I)V -/
theorem b206 : mB 206 = cX7_putPitch := rfl
theorem r206 : mR 206 = none := rfl
theorem p206 (a b : Nat) : phi 206 a ≤ phi 206 b := Nat.le_refl 0
theorem d206_0 : decode cX7_putPitch 0 = .ok (.iload_n 1, 1) := by decide +kernel
theorem d206_1 : decode cX7_putPitch 1 = .ok (.bipush 12, 2) := by decide +kernel
theorem d206_3 : decode cX7_putPitch 3 = .ok (.irem, 1) := by decide +kernel
theorem d206_4 : decode cX7_putPitch 4 = .ok (.invokestatic 19, 3) := by decide +kernel
theorem d206_7 : decode cX7_putPitch 7 = .ok (.astore_n 2, 1) := by decide +kernel
theorem d206_8 : decode cX7_putPitch 8 = .ok (.iconst 0, 1) := by decide +kernel
theorem d206_9 : decode cX7_putPitch 9 = .ok (.istore_n 3, 1) := by decide +kernel
theorem d206_10 : decode cX7_putPitch 10 = .ok (.iload_n 3, 1) := by decide +kernel
theorem d206_11 : decode cX7_putPitch 11 = .ok (.aload_n 2, 1) := by decide +kernel
theorem d206_12 : decode cX7_putPitch 12 = .ok (.invokevirtual 23, 3) := by decide +kernel
theorem d206_15 : decode cX7_putPitch 15 = .ok (.if_icmp .ge 18, 3) := by decide +kernel
theorem d206_18 : decode cX7_putPitch 18 = .ok (.aload_n 0, 1) := by decide +kernel
theorem d206_19 : decode cX7_putPitch 19 = .ok (.aload_n 2, 1) := by decide +kernel
theorem d206_20 : decode cX7_putPitch 20 = .ok (.iload_n 3, 1) := by decide +kernel
theorem d206_21 : decode cX7_putPitch 21 = .ok (.invokevirtual 28, 3) := by decide +kernel
theorem d206_24 : decode cX7_putPitch 24 = .ok (.invokevirtual 32, 3) := by decide +kernel
theorem d206_27 : decode cX7_putPitch 27 = .ok (.iinc 3 1, 3) := by decide +kernel
theorem d206_30 : decode cX7_putPitch 30 = .ok (.goto (-20), 3) := by decide +kernel
theorem d206_33 : decode cX7_putPitch 33 = .ok (.aload_n 0, 1) := by decide +kernel
theorem d206_34 : decode cX7_putPitch 34 = .ok (.bipush 48, 2) := by decide +kernel
theorem d206_36 : decode cX7_putPitch 36 = .ok (.iload_n 1, 1) := by decide +kernel
theorem d206_37 : decode cX7_putPitch 37 = .ok (.bipush 12, 2) := by decide +kernel
theorem d206_39 : decode cX7_putPitch 39 = .ok (.idiv, 1) := by decide +kernel
theorem d206_40 : decode cX7_putPitch 40 = .ok (.iadd, 1) := by decide +kernel
theorem d206_41 : decode cX7_putPitch 41 = .ok (.i2c, 1) := by decide +kernel
theorem d206_42 : decode cX7_putPitch 42 = .ok (.invokevirtual 32, 3) := by decide +kernel
theorem d206_45 : decode cX7_putPitch 45 = .ok (.return_, 1) := by decide +kernel
theorem v206_0 {w : PW} {Q : PO → PW → Prop} {x1 : Int} (hs : Sh w) (hx1 : bd x1) (h : (bd (x1.tmod 12)) ∧ pX 206 10 [some (.ref 137), some (iv x1), some (.ref (pSB + nmC (x1.tmod 12))), some (iv 0)] [] w Q) : pX 206 0 [some (.ref 137), some (iv x1), none, none] [] w Q :=
  w_f b206 d206_0 rfl rfl rfl <| w_f b206 d206_1 rfl rfl rfl <| w_f b206 d206_3 rfl (pf_irem hx1 ⟨by decide, by decide⟩) rfl <| w_cc b206 d206_4 rfl (pcl_s1 (n := 1) rfl rfl rfl (by decide +kernel) rfl rfl) rfl <| c22 hs h.1 <| w_f b206 d206_7 rfl rfl rfl <| w_f b206 d206_8 rfl rfl rfl <| w_f b206 d206_9 rfl rfl rfl <| h.2
theorem e206 {w : PW} {Q : PO → PW → Prop} {x1 : Int} (hs : Sh w) (hx1 : bd x1) (h : (bd (x1.tmod 12)) ∧ pX 206 10 [some (.ref 137), some (iv x1), some (.ref (pSB + nmC (x1.tmod 12))), some (iv 0)] [] w Q) : pC 206 [.ref 137, iv x1] w Q :=
  (pC_in (Nat.le_of_ble_eq_true rfl) rfl Q).mpr (v206_0 hs hx1 h)
theorem v206_10 {w : PW} {Q : PO → PW → Prop} {x1 : Int} {r2 : Nat} {x3 : Int} (hs : Sh w) (hx1 : bd x1) (hr2 : r2 < 38) (hx3 : bd x3) (h : ((((sTx.getD r2 []).length : Int)) ≤ x3 → pC 205 [.ref 137, iv (i2C (48 + (x1.tdiv 12)))] w (kV fun w2 => Sh w2 ∧ Q (.inl none) w2)) ∧ (x3 < (((sTx.getD r2 []).length : Int)) → (0 ≤ x3 ∧ x3 < (sTx.getD r2 []).length) ∧ pC 205 [.ref 137, iv (((sTx.getD r2 []).getD x3.toNat 0 : Int))] w (kV fun w4 => Sh w4 ∧ pX 206 10 [some (.ref 137), some (iv x1), some (.ref (pSB + r2)), some (iv (x3 + 1))] [] w4 Q))) : pX 206 10 [some (.ref 137), some (iv x1), some (.ref (pSB + r2)), some (iv x3)] [] w Q :=
  w_f b206 d206_10 rfl rfl rfl <| w_f b206 d206_11 rfl rfl rfl <| w_slen b206 d206_12 rfl rfl hr2 rfl <| w_icge b206 d206_15 rfl rfl (p206 _ _) hx3 (bd_sl hr2) (fun c1 => w_f b206 d206_33 rfl rfl rfl <| w_f b206 d206_34 rfl rfl rfl <| w_f b206 d206_36 rfl rfl rfl <| w_f b206 d206_37 rfl rfl rfl <| w_f b206 d206_39 rfl (pf_idiv hx1 ⟨by decide, by decide⟩) rfl <| w_f b206 d206_40 rfl (pf_iadd 48 (x1.tdiv 12)) rfl <| w_f b206 d206_41 rfl (pf_i2c _) rfl <| w_c b206 d206_42 rfl (pcl_v (n := 1) rfl rfl rfl (by decide +kernel) (sh_isOb hs (tlt 137 rfl) tbC_137) rfl rfl) rfl _ (hK_V fun w2 hkw2 => w_rv b206 d206_45 r206 hkw2.2) (h.1 c1)) (fun c1 => w_f b206 d206_18 rfl rfl rfl <| w_f b206 d206_19 rfl rfl rfl <| w_f b206 d206_20 rfl rfl rfl <| w_chat b206 d206_21 rfl rfl hr2 rfl hx3 (h.2 c1).1 <| w_c b206 d206_24 rfl (pcl_v (n := 1) rfl rfl rfl (by decide +kernel) (sh_isOb hs (tlt 137 rfl) tbC_137) rfl rfl) rfl _ (hK_V fun w4 hkw4 => w_f b206 d206_27 rfl (pf_iinc rfl rfl) rfl <| w_j b206 d206_30 rfl (p206 _ _) <| hkw4.2) (h.2 c1).2)
theorem c205 {w : PW} {Q : PO → PW → Prop} {o : Nat → Int} {n : Nat} {z : Int} (hs : Sh w) (hW : WR w o n) (hn : n < 400) (hz : 0 ≤ z ∧ z < 256) (h : ∀ w2, Sh w2 → WR w2 (oPut o n z) (n + 1) → WF w w2 → Q (.inl none) w2) : pC 205 [.ref 137, iv z] w Q := by
  obtain ⟨h1, h2, h3⟩ := hW
  obtain ⟨y, rfl⟩ : ∃ y : Nat, z = y := ⟨z.toNat, by omega⟩
  refine e205 hs (bdk (by omega)) ?_
  rw [h1]
  refine ⟨fun q => by omega, fun _ => ⟨⟨by omega, by omega⟩, nar_c y (by omega), fun w2 e2 w3 e3 => ?_⟩⟩
  rw [Int.toNat_natCast] at e2
  obtain ⟨s2, g2, -, k2⟩ := stI e2 hs (by omega) (slt_a tbC_138) (bdk (by omega))
  rw [g2, if_neg (by omega), h1] at e3
  obtain ⟨s3, g3, -, k3⟩ := stI e3 s2 (by omega) (slt_o tbC_137 rfl) ⟨by omega, by omega⟩
  refine h w3 s3 ⟨by rw [g3, if_pos ⟨rfl, rfl⟩]; rfl, by omega, fun k hk => ?_⟩ (fun c hc => by rw [k3 c (by omega), k2 c (by omega)])
  rw [g3, if_neg (by omega), g2]
  unfold oPut
  by_cases e : k = n
  · rw [if_pos ⟨rfl, e⟩, if_pos e]
  · rw [if_neg (fun z => e z.2), if_neg e, h3 k (by omega)]
/-- a text behind the output -/
def oTxt (o : Nat → Int) (n : Nat) (l : List Nat) : Nat → Int := fun k => if k < n then o k else ((l.getD (k - n) 0 : Nat) : Int)
def nmL : List (List Nat) := [[99], [99, 105, 115], [100], [100, 105, 115], [101], [102], [102, 105, 115], [103], [103, 105, 115], [97], [97, 105, 115], [98]]
theorem nmC_txt : ∀ k, k < 12 → sTx.getD (nmC (k : Nat)) [] = nmL.getD k [] ∧ nmC (k : Nat) < 38 := by decide +kernel
theorem nmM_txt : ∀ k, k < 12 → sTx.getD (nmM (k : Nat)) [] = nmL.getD k [] ∧ nmM (k : Nat) < 38 := by decide +kernel
theorem nmL_ok : ∀ k, k < 12 → (nmL.getD k []).length ≤ 3 ∧ ∀ i, i < (nmL.getD k []).length → (nmL.getD k []).getD i 0 < 256 := by decide +kernel
/-- the letters of a pitch: its name and its octave -/
def oPit (p : Nat) : List Nat := nmL.getD (p % 12) [] ++ [48 + p / 12]
theorem oPit_len {p : Nat} (h : p < 24) : (oPit p).length ≤ 4 := by
  have := (nmL_ok (p % 12) (by omega)).1
  unfold oPit
  rw [List.length_append]
  show (nmL.getD (p % 12) []).length + 1 ≤ 4
  omega
theorem WR.congr {w : PW} {o o' : Nat → Int} {n : Nat} (h : WR w o n) (he : ∀ k, k < n → o' k = o k) : WR w o' n := ⟨h.1, h.2.1, fun k hk => by rw [he k hk]; exact h.2.2 k hk⟩
