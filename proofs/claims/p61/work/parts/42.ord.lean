/-! THE SEARCH: the order of the notes; the class prepares -/
def rRank (m : Row) (k : Nat) : Int := 24 * rN m k 1 + rN m k 2
def insP (m : Row) (ord : Nat → Nat) (k : Nat) : Nat → Nat
  | 0 => 0
  | p + 1 => if rRank m k < rRank m (ord p) then insP m ord k p else p + 1
def insO (m : Row) (ord : Nat → Nat) (c k : Nat) : Nat → Nat := fun i => if i < insP m ord k c then ord i else if i = insP m ord k c then k else ord (i - 1)
def sOrd (m : Row) (u : Int) : Nat → (Nat → Nat) × Nat
  | 0 => (fun _ => 0, 0)
  | n + 1 => if rN m n 0 = u then (insO m (sOrd m u n).1 (sOrd m u n).2 n, (sOrd m u n).2 + 1) else sOrd m u n
theorem insP_le (m : Row) (ord : Nat → Nat) (k : Nat) : ∀ c, insP m ord k c ≤ c := by
  intro c
  induction c with
  | zero => exact Nat.le_refl 0
  | succ c ih =>
    unfold insP
    split <;> omega
theorem sOrd_ok (m : Row) (u : Int) : ∀ n, (sOrd m u n).2 ≤ n ∧ ∀ i, i < (sOrd m u n).2 → (sOrd m u n).1 i < n ∧ rN m ((sOrd m u n).1 i) 0 = u := by
  intro n
  induction n with
  | zero => exact ⟨Nat.le_refl 0, fun i hi => absurd hi (Nat.not_lt_zero i)⟩
  | succ n ih =>
    obtain ⟨h1, h2⟩ := ih
    by_cases q : rN m n 0 = u
    · rw [show sOrd m u (n + 1) = (insO m (sOrd m u n).1 (sOrd m u n).2 n, (sOrd m u n).2 + 1) from if_pos q]
      refine ⟨by show (sOrd m u n).2 + 1 ≤ n + 1; omega, fun i hi => ?_⟩
      have hi2 : i < (sOrd m u n).2 + 1 := hi
      have hp := insP_le m (sOrd m u n).1 n (sOrd m u n).2
      show insO m (sOrd m u n).1 (sOrd m u n).2 n i < n + 1 ∧ rN m (insO m (sOrd m u n).1 (sOrd m u n).2 n i) 0 = u
      unfold insO
      by_cases q1 : i < insP m (sOrd m u n).1 n (sOrd m u n).2
      · rw [if_pos q1]
        have := h2 i (by omega)
        exact ⟨by omega, this.2⟩
      · rw [if_neg q1]
        by_cases q2 : i = insP m (sOrd m u n).1 n (sOrd m u n).2
        · rw [if_pos q2]
          exact ⟨by omega, q⟩
        · rw [if_neg q2]
          have := h2 (i - 1) (by omega)
          exact ⟨by omega, this.2⟩
    · rw [show sOrd m u (n + 1) = sOrd m u n from if_neg q]
      exact ⟨by omega, fun i hi => by have := h2 i hi; exact ⟨by omega, this.2⟩⟩
def ordN (m : Row) (u : Int) (i : Nat) : Nat := (sOrd m u (m 5).toNat).1 i
def ordR (m : Row) (u : Int) : Nat := (sOrd m u (m 5).toNat).2
theorem ordN_ok {m : Row} (h : RowOK m) {u : Int} {i : Nat} (hi : i < ordR m u) : ((ordN m u i : Nat) : Int) < m 5 ∧ rN m (ordN m u i) 0 = u := by
  have h5 := h.n
  have := (sOrd_ok m u (m 5).toNat).2 i hi
  unfold ordN
  exact ⟨by omega, this.2⟩
theorem ordR_le {m : Row} (h : RowOK m) (u : Int) : ordR m u ≤ 60 := by
  have h5 := h.n
  have := (sOrd_ok m u (m 5).toNat).1
  unfold ordR
  omega
/-- nothing but the search has changed -/
def SF (w w' : PW) : Prop := ∀ c, ¬ (139 ≤ c ∧ c ≤ 142) → w'.2.2 c = w.2.2 c
theorem SF.rf {w : PW} : SF w w := fun _ _ => rfl
theorem SF.tr {w w1 w2 : PW} (h1 : SF w w1) (h2 : SF w1 w2) : SF w w2 := fun c hc => (h2 c hc).trans (h1 c hc)
theorem SF.br {w w' : PW} {b : Nat} {m : Row} (h : SF w w') (hB : BR w b m) : BR w' b m := by
  have := bx_at hB.bx
  exact hB.cells (fun k hk => h _ (by omega))
/-! 117: PinBarrel$Search.sortIn(LPinBarrel$Notes;I)V -/
theorem b117 : mB 117 = cX6_sortIn := rfl
theorem r117 : mR 117 = none := rfl
theorem p117 (a b : Nat) : phi 117 a ≤ phi 117 b := Nat.le_refl 0
theorem d117_0 : decode cX6_sortIn 0 = .ok (.aload_n 0, 1) := by decide +kernel
theorem d117_1 : decode cX6_sortIn 1 = .ok (.getfield 18, 3) := by decide +kernel
theorem d117_4 : decode cX6_sortIn 4 = .ok (.istore_n 3, 1) := by decide +kernel
theorem d117_5 : decode cX6_sortIn 5 = .ok (.iload_n 3, 1) := by decide +kernel
theorem d117_6 : decode cX6_sortIn 6 = .ok (.ifCond .le 43, 3) := by decide +kernel
theorem d117_9 : decode cX6_sortIn 9 = .ok (.aload_n 1, 1) := by decide +kernel
theorem d117_10 : decode cX6_sortIn 10 = .ok (.aload_n 0, 1) := by decide +kernel
theorem d117_11 : decode cX6_sortIn 11 = .ok (.getfield 21, 3) := by decide +kernel
theorem d117_14 : decode cX6_sortIn 14 = .ok (.iload_n 3, 1) := by decide +kernel
theorem d117_15 : decode cX6_sortIn 15 = .ok (.iconst 1, 1) := by decide +kernel
theorem d117_16 : decode cX6_sortIn 16 = .ok (.isub, 1) := by decide +kernel
theorem d117_17 : decode cX6_sortIn 17 = .ok (.iaload, 1) := by decide +kernel
theorem d117_18 : decode cX6_sortIn 18 = .ok (.invokestatic 90, 3) := by decide +kernel
theorem d117_21 : decode cX6_sortIn 21 = .ok (.aload_n 1, 1) := by decide +kernel
theorem d117_22 : decode cX6_sortIn 22 = .ok (.iload_n 2, 1) := by decide +kernel
theorem d117_23 : decode cX6_sortIn 23 = .ok (.invokestatic 90, 3) := by decide +kernel
theorem d117_26 : decode cX6_sortIn 26 = .ok (.if_icmp .le 23, 3) := by decide +kernel
theorem d117_29 : decode cX6_sortIn 29 = .ok (.aload_n 0, 1) := by decide +kernel
theorem d117_30 : decode cX6_sortIn 30 = .ok (.getfield 21, 3) := by decide +kernel
theorem d117_33 : decode cX6_sortIn 33 = .ok (.iload_n 3, 1) := by decide +kernel
theorem d117_34 : decode cX6_sortIn 34 = .ok (.aload_n 0, 1) := by decide +kernel
theorem d117_35 : decode cX6_sortIn 35 = .ok (.getfield 21, 3) := by decide +kernel
theorem d117_38 : decode cX6_sortIn 38 = .ok (.iload_n 3, 1) := by decide +kernel
theorem d117_39 : decode cX6_sortIn 39 = .ok (.iconst 1, 1) := by decide +kernel
theorem d117_40 : decode cX6_sortIn 40 = .ok (.isub, 1) := by decide +kernel
theorem d117_41 : decode cX6_sortIn 41 = .ok (.iaload, 1) := by decide +kernel
theorem d117_42 : decode cX6_sortIn 42 = .ok (.iastore, 1) := by decide +kernel
theorem d117_43 : decode cX6_sortIn 43 = .ok (.iinc 3 (-1), 3) := by decide +kernel
theorem d117_46 : decode cX6_sortIn 46 = .ok (.goto (-41), 3) := by decide +kernel
theorem d117_49 : decode cX6_sortIn 49 = .ok (.aload_n 0, 1) := by decide +kernel
theorem d117_50 : decode cX6_sortIn 50 = .ok (.getfield 21, 3) := by decide +kernel
theorem d117_53 : decode cX6_sortIn 53 = .ok (.iload_n 3, 1) := by decide +kernel
theorem d117_54 : decode cX6_sortIn 54 = .ok (.iload_n 2, 1) := by decide +kernel
theorem d117_55 : decode cX6_sortIn 55 = .ok (.iastore, 1) := by decide +kernel
theorem d117_56 : decode cX6_sortIn 56 = .ok (.aload_n 0, 1) := by decide +kernel
theorem d117_57 : decode cX6_sortIn 57 = .ok (.dup, 1) := by decide +kernel
theorem d117_58 : decode cX6_sortIn 58 = .ok (.getfield 18, 3) := by decide +kernel
theorem d117_61 : decode cX6_sortIn 61 = .ok (.iconst 1, 1) := by decide +kernel
theorem d117_62 : decode cX6_sortIn 62 = .ok (.iadd, 1) := by decide +kernel
theorem d117_63 : decode cX6_sortIn 63 = .ok (.putfield 18, 3) := by decide +kernel
theorem d117_66 : decode cX6_sortIn 66 = .ok (.return_, 1) := by decide +kernel
theorem v117_0 {w : PW} {Q : PO → PW → Prop} {c : Nat} {x2 : Int} (hs : Sh w) (hc : bx c) (hx2 : bd x2) (h : pX 117 5 [some (.ref 139), some (.ref (c + 4)), some (iv x2), some (iv (gI w 139 2))] [] w Q) : pX 117 0 [some (.ref 139), some (.ref (c + 4)), some (iv x2), none] [] w Q :=
  w_f b117 d117_0 rfl rfl rfl <| w_gi b117 d117_1 rfl rfl hs (tlt 139 rfl) tbC_139 rfl <| w_f b117 d117_4 rfl rfl rfl <| h
theorem e117 {w : PW} {Q : PO → PW → Prop} {c : Nat} {x2 : Int} (hs : Sh w) (hc : bx c) (hx2 : bd x2) (h : pX 117 5 [some (.ref 139), some (.ref (c + 4)), some (iv x2), some (iv (gI w 139 2))] [] w Q) : pC 117 [.ref 139, .ref (c + 4), iv x2] w Q :=
  (pC_in (Nat.le_of_ble_eq_true rfl) rfl Q).mpr (v117_0 hs hc hx2 h)
theorem v117_5 {w : PW} {Q : PO → PW → Prop} {c : Nat} {x2 : Int} {x3 : Int} (hs : Sh w) (hc : bx c) (hx2 : bd x2) (hx3 : bd x3) (h : (x3 ≤ 0 → (0 ≤ x3 ∧ x3 < 60) ∧ ∀ w2 : PW, w2 = sI w 140 x3.toNat x2 → ∀ w3 : PW, w3 = sI w2 139 2 ((gI w2 139 2) + 1) → Q (.inl none) w3) ∧ (0 < x3 → (0 ≤ (x3 - 1) ∧ (x3 - 1) < 60) ∧ (0 ≤ (gI w 140 (x3 - 1).toNat) ∧ (gI w 140 (x3 - 1).toNat) < 60) ∧ (0 ≤ x2 ∧ x2 < 60) ∧ (bd (24 * (gI w (c + 6) ((gI w 140 (x3 - 1).toNat)).toNat) + (gI w (c + 7) ((gI w 140 (x3 - 1).toNat)).toNat))) ∧ (bd (24 * (gI w (c + 6) (x2).toNat) + (gI w (c + 7) (x2).toNat))) ∧ ((24 * (gI w (c + 6) ((gI w 140 (x3 - 1).toNat)).toNat) + (gI w (c + 7) ((gI w 140 (x3 - 1).toNat)).toNat)) ≤ (24 * (gI w (c + 6) (x2).toNat) + (gI w (c + 7) (x2).toNat)) → (0 ≤ x3 ∧ x3 < 60) ∧ ∀ w5 : PW, w5 = sI w 140 x3.toNat x2 → ∀ w6 : PW, w6 = sI w5 139 2 ((gI w5 139 2) + 1) → Q (.inl none) w6) ∧ ((24 * (gI w (c + 6) (x2).toNat) + (gI w (c + 7) (x2).toNat)) < (24 * (gI w (c + 6) ((gI w 140 (x3 - 1).toNat)).toNat) + (gI w (c + 7) ((gI w 140 (x3 - 1).toNat)).toNat)) → (0 ≤ (x3 - 1) ∧ (x3 - 1) < 60) ∧ (0 ≤ x3 ∧ x3 < 60) ∧ ∀ w7 : PW, w7 = sI w 140 x3.toNat (gI w 140 (x3 - 1).toNat) → pX 117 5 [some (.ref 139), some (.ref (c + 4)), some (iv x2), some (iv (x3 + (-1)))] [] w7 Q))) : pX 117 5 [some (.ref 139), some (.ref (c + 4)), some (iv x2), some (iv x3)] [] w Q :=
  w_f b117 d117_5 rfl rfl rfl <| w_ifle b117 d117_6 rfl rfl (p117 _ _) hx3 (fun c1 => w_f b117 d117_49 rfl rfl rfl <| w_gr b117 d117_50 rfl rfl hs (tlt 139 rfl) tbC_139 rfl (by decide) <| w_f b117 d117_53 rfl rfl rfl <| w_f b117 d117_54 rfl rfl rfl <| w_ias b117 d117_55 rfl hs (tlt 140 rfl) tbC_140 (bdix (n := 60) (h.1 c1).1 rfl) (h.1 c1).1 <| w_f b117 d117_56 rfl rfl rfl <| w_f b117 d117_57 rfl rfl rfl <| w_gi b117 d117_58 rfl rfl (Sh_sI hs (slt_a tbC_140)) (tlt 139 rfl) tbC_139 rfl <| w_f b117 d117_61 rfl rfl rfl <| w_f b117 d117_62 rfl (pf_iadd _ 1) rfl <| w_pi b117 d117_63 rfl rfl (Sh_sI hs (slt_a tbC_140)) (tlt 139 rfl) tbC_139 rfl rfl rfl <| w_rv b117 d117_66 r117 (((h.1 c1).2 _ rfl) _ rfl)) (fun c1 => w_f b117 d117_9 rfl rfl rfl <| w_f b117 d117_10 rfl rfl rfl <| w_gr b117 d117_11 rfl rfl hs (tlt 139 rfl) tbC_139 rfl (by decide) <| w_f b117 d117_14 rfl rfl rfl <| w_f b117 d117_15 rfl rfl rfl <| w_f b117 d117_16 rfl (pf_isub x3 1) rfl <| w_ial b117 d117_17 rfl hs (tlt 140 rfl) tbC_140 (bdix (n := 60) (h.2 c1).1 rfl) (h.2 c1).1 <| w_cc b117 d117_18 rfl (pcl_s1 (n := 2) rfl rfl rfl (by decide +kernel) rfl rfl) rfl <| c116 hs hc (bd_gI _ _ _) (h.2 c1).2.1 <| w_f b117 d117_21 rfl rfl rfl <| w_f b117 d117_22 rfl rfl rfl <| w_cc b117 d117_23 rfl (pcl_s1 (n := 2) rfl rfl rfl (by decide +kernel) rfl rfl) rfl <| c116 hs hc hx2 (h.2 c1).2.2.1 <| w_icle b117 d117_26 rfl rfl (p117 _ _) (h.2 c1).2.2.2.1 (h.2 c1).2.2.2.2.1 (fun c4 => w_f b117 d117_49 rfl rfl rfl <| w_gr b117 d117_50 rfl rfl hs (tlt 139 rfl) tbC_139 rfl (by decide) <| w_f b117 d117_53 rfl rfl rfl <| w_f b117 d117_54 rfl rfl rfl <| w_ias b117 d117_55 rfl hs (tlt 140 rfl) tbC_140 (bdix (n := 60) ((h.2 c1).2.2.2.2.2.1 c4).1 rfl) ((h.2 c1).2.2.2.2.2.1 c4).1 <| w_f b117 d117_56 rfl rfl rfl <| w_f b117 d117_57 rfl rfl rfl <| w_gi b117 d117_58 rfl rfl (Sh_sI hs (slt_a tbC_140)) (tlt 139 rfl) tbC_139 rfl <| w_f b117 d117_61 rfl rfl rfl <| w_f b117 d117_62 rfl (pf_iadd _ 1) rfl <| w_pi b117 d117_63 rfl rfl (Sh_sI hs (slt_a tbC_140)) (tlt 139 rfl) tbC_139 rfl rfl rfl <| w_rv b117 d117_66 r117 ((((h.2 c1).2.2.2.2.2.1 c4).2 _ rfl) _ rfl)) (fun c4 => w_f b117 d117_29 rfl rfl rfl <| w_gr b117 d117_30 rfl rfl hs (tlt 139 rfl) tbC_139 rfl (by decide) <| w_f b117 d117_33 rfl rfl rfl <| w_f b117 d117_34 rfl rfl rfl <| w_gr b117 d117_35 rfl rfl hs (tlt 139 rfl) tbC_139 rfl (by decide) <| w_f b117 d117_38 rfl rfl rfl <| w_f b117 d117_39 rfl rfl rfl <| w_f b117 d117_40 rfl (pf_isub x3 1) rfl <| w_ial b117 d117_41 rfl hs (tlt 140 rfl) tbC_140 (bdix (n := 60) ((h.2 c1).2.2.2.2.2.2 c4).1 rfl) ((h.2 c1).2.2.2.2.2.2 c4).1 <| w_ias b117 d117_42 rfl hs (tlt 140 rfl) tbC_140 (bdix (n := 60) ((h.2 c1).2.2.2.2.2.2 c4).2.1 rfl) ((h.2 c1).2.2.2.2.2.2 c4).2.1 <| w_f b117 d117_43 rfl (pf_iinc rfl rfl) rfl <| w_j b117 d117_46 rfl (p117 _ _) <| (((h.2 c1).2.2.2.2.2.2 c4).2.2 _ rfl)))
theorem l117 {w : PW} {Q : PO → PW → Prop} {c cN k : Nat} {m : Row} {ord : Nat → Nat} (hC : BR w c m) (hcN : cN < 60) (hk : (k : Int) < m 5) (ho : ∀ i, i < cN → ((ord i : Nat) : Int) < m 5) (h : ∀ w2, Sh w2 → gI w2 139 2 = ((cN + 1 : Nat) : Int) → (∀ j, j ≠ 2 → gI w2 139 j = gI w 139 j) → (∀ i, i < cN + 1 → gI w2 140 i = (insO m ord cN k i : Nat)) → (∀ a, a ≠ 139 → a ≠ 140 → w2.2.2 a = w.2.2 a) → Q (.inl none) w2) : ∀ p : Nat, p ≤ cN → insP m ord k p = insP m ord k cN → ∀ w1, Sh w1 → gI w1 139 2 = (cN : Int) → (∀ j, gI w1 139 j = gI w 139 j) → (∀ i, i < cN + 1 → i ≠ p → gI w1 140 i = if p < i then ((ord (i - 1) : Nat) : Int) else (ord i : Nat)) → (∀ a, a ≠ 140 → w1.2.2 a = w.2.2 a) → pX 117 5 [some (.ref 139), some (.ref (c + 4)), some (iv (k : Nat)), some (iv (p : Nat))] [] w1 Q := by
  have h5 := hC.ok.n
  have h1 := hC.ok.s
  have hfin : ∀ p w1, p ≤ cN → insP m ord k cN = p → Sh w1 → gI w1 139 2 = (cN : Int) → (∀ j, gI w1 139 j = gI w 139 j) → (∀ i, i < cN + 1 → i ≠ p → gI w1 140 i = if p < i then ((ord (i - 1) : Nat) : Int) else (ord i : Nat)) → (∀ a, a ≠ 140 → w1.2.2 a = w.2.2 a) → ∀ w2 : PW, w2 = sI w1 140 (p : Int).toNat (k : Nat) → ∀ w3 : PW, w3 = sI w2 139 2 ((gI w2 139 2) + 1) → Q (.inl none) w3 := by
    intro p w1 hp hpe s1 n1 hj hV hO w2 e2 w3 e3
    rw [Int.toNat_natCast] at e2
    obtain ⟨s2, g2, -, k2⟩ := stI e2 s1 (by omega) (slt_a tbC_140) (bdk (by omega))
    rw [g2, if_neg (by omega), n1] at e3
    obtain ⟨s3, g3, -, k3⟩ := stI e3 s2 (by omega) (slt_o tbC_139 rfl) ⟨by omega, by omega⟩
    refine h w3 s3 (by rw [g3, if_pos ⟨rfl, rfl⟩]; rfl) (fun j hj2 => by rw [g3, if_neg (by omega), g2, if_neg (by omega), hj]) (fun i hi => ?_) (fun a h1 h2 => by rw [k3 a h1, k2 a h2, hO a h2])
    rw [g3, if_neg (by omega), g2]
    unfold insO
    rw [hpe]
    by_cases q : i = p
    · rw [if_pos ⟨rfl, q⟩, if_neg (by omega), if_pos q]
    · rw [if_neg (fun z => q z.2), hV i hi q]
      by_cases q2 : p < i
      · rw [if_pos q2, if_neg (by omega), if_neg q]
      · rw [if_neg q2, if_pos (by omega)]
  have hrk : ∀ w1, (∀ a, a ≠ 140 → w1.2.2 a = w.2.2 a) → ∀ j : Nat, (j : Int) < m 5 → 24 * gI w1 (c + 6) j + gI w1 (c + 7) j = rRank m j := by
    intro w1 hO j hj
    have := bx_at hC.bx
    obtain ⟨f1, f2, f3⟩ := hC.N hj
    rw [gI_cell (hO (c + 6) (by omega)), gI_cell (hO (c + 7) (by omega)), f2, f3]
    rfl
  have hrb : ∀ j : Nat, (j : Int) < m 5 → bd (rRank m j) := by
    intro j hj
    obtain ⟨f1, f2, f3⟩ := hC.ok.N hj
    unfold rRank
    exact ⟨by omega, by omega⟩
  intro p
  induction p with
  | zero =>
    intro hp hpe w1 s1 n1 hj hV hO
    refine v117_5 s1 hC.bx (bdk (by omega)) (bdk (by omega)) ⟨fun _ => ⟨⟨by omega, by omega⟩, ?_⟩, fun q => by omega⟩
    exact hfin 0 w1 hp hpe.symm s1 n1 hj hV hO
  | succ p ih =>
    intro hp hpe w1 s1 n1 hj hV hO
    have hop := ho p (by omega)
    have hV1 := hV p (by omega) (by omega)
    rw [if_neg (by omega)] at hV1
    refine v117_5 s1 hC.bx (bdk (by omega)) (bdk (by omega)) ?_
    rw [show (((p + 1 : Nat) : Int) - 1).toNat = p from by omega, hV1, Int.toNat_natCast, Int.toNat_natCast, Int.toNat_natCast, hrk w1 hO _ hop, hrk w1 hO _ hk]
    refine ⟨fun q => by omega, fun _ => ⟨⟨by omega, by omega⟩, ⟨by omega, by omega⟩, ⟨by omega, by omega⟩, hrb _ hop, hrb _ hk, fun q => ⟨⟨by omega, by omega⟩, ?_⟩, fun q => ⟨⟨by omega, by omega⟩, ⟨by omega, by omega⟩, fun w7 e7 => ?_⟩⟩⟩
    · refine hfin (p + 1) w1 hp ?_ s1 n1 hj hV hO
      rw [← hpe]
      exact if_neg (by omega)
    · obtain ⟨s7, g7, -, k7⟩ := stI e7 s1 (by omega) (slt_a tbC_140) (bdk (by omega))
      have := ih (by omega) (by rw [← hpe]; exact (if_pos q).symm) w7 s7 (by rw [g7, if_neg (by omega), n1]) (fun j => by rw [g7, if_neg (by omega), hj]) (fun i hi hip => ?_) (fun a ha => by rw [k7 a ha, hO a ha])
      · rw [show (((p + 1 : Nat) : Int) + (-1)) = (p : Int) from by omega]
        exact this
      · rw [g7]
        by_cases q2 : i = p + 1
        · rw [if_pos ⟨rfl, q2⟩, if_pos (by omega), q2]
          rfl
        · rw [if_neg (fun z => q2 z.2), hV i hi q2]
          by_cases q3 : p + 1 < i
          · rw [if_pos q3, if_pos (by omega)]
          · rw [if_neg q3, if_neg (by omega)]
theorem c117 {w : PW} {Q : PO → PW → Prop} {c cN k : Nat} {m : Row} {ord : Nat → Nat} (hs : Sh w) (hC : BR w c m) (hcN : cN < 60) (hk : (k : Int) < m 5) (ho : ∀ i, i < cN → gI w 140 i = (ord i : Nat) ∧ ((ord i : Nat) : Int) < m 5) (hn : gI w 139 2 = (cN : Int)) (h : ∀ w2, Sh w2 → gI w2 139 2 = ((cN + 1 : Nat) : Int) → (∀ j, j ≠ 2 → gI w2 139 j = gI w 139 j) → (∀ i, i < cN + 1 → gI w2 140 i = (insO m ord cN k i : Nat)) → (∀ a, a ≠ 139 → a ≠ 140 → w2.2.2 a = w.2.2 a) → Q (.inl none) w2) : pC 117 [.ref 139, .ref (c + 4), iv (k : Nat)] w Q := by
  have h5 := hC.ok.n
  refine e117 hs hC.bx (bdk (by omega)) ?_
  rw [hn]
  exact l117 hC hcN hk (fun i hi => (ho i hi).2) h cN (Nat.le_refl _) rfl w hs hn (fun _ => rfl) (fun i hi hip => by rw [if_neg (by omega)]; exact (ho i (by omega)).1) (fun _ _ => rfl)
/-! 118: PinBarrel$Search.prepare(LPinBarrel$Box;I)V -/
theorem b118 : mB 118 = cX6_prepare := rfl
theorem r118 : mR 118 = none := rfl
theorem p118 (a b : Nat) : phi 118 a ≤ phi 118 b := Nat.le_refl 0
theorem d118_0 : decode cX6_prepare 0 = .ok (.aload_n 0, 1) := by decide +kernel
theorem d118_1 : decode cX6_prepare 1 = .ok (.bipush (-2), 2) := by decide +kernel
theorem d118_3 : decode cX6_prepare 3 = .ok (.putfield 11, 3) := by decide +kernel
theorem d118_6 : decode cX6_prepare 6 = .ok (.aload_n 0, 1) := by decide +kernel
theorem d118_7 : decode cX6_prepare 7 = .ok (.iconst 0, 1) := by decide +kernel
theorem d118_8 : decode cX6_prepare 8 = .ok (.putfield 15, 3) := by decide +kernel
theorem d118_11 : decode cX6_prepare 11 = .ok (.aload_n 0, 1) := by decide +kernel
theorem d118_12 : decode cX6_prepare 12 = .ok (.iconst 0, 1) := by decide +kernel
theorem d118_13 : decode cX6_prepare 13 = .ok (.putfield 18, 3) := by decide +kernel
theorem d118_16 : decode cX6_prepare 16 = .ok (.aload_n 1, 1) := by decide +kernel
theorem d118_17 : decode cX6_prepare 17 = .ok (.getfield 62, 3) := by decide +kernel
theorem d118_20 : decode cX6_prepare 20 = .ok (.iconst 0, 1) := by decide +kernel
theorem d118_21 : decode cX6_prepare 21 = .ok (.aload_n 0, 1) := by decide +kernel
theorem d118_22 : decode cX6_prepare 22 = .ok (.getfield 28, 3) := by decide +kernel
theorem d118_25 : decode cX6_prepare 25 = .ok (.iconst 0, 1) := by decide +kernel
theorem d118_26 : decode cX6_prepare 26 = .ok (.bipush 36, 2) := by decide +kernel
theorem d118_28 : decode cX6_prepare 28 = .ok (.invokestatic 65, 3) := by decide +kernel
theorem d118_31 : decode cX6_prepare 31 = .ok (.iconst 0, 1) := by decide +kernel
theorem d118_32 : decode cX6_prepare 32 = .ok (.istore_n 3, 1) := by decide +kernel
theorem d118_33 : decode cX6_prepare 33 = .ok (.iload_n 3, 1) := by decide +kernel
theorem d118_34 : decode cX6_prepare 34 = .ok (.aload_n 1, 1) := by decide +kernel
theorem d118_35 : decode cX6_prepare 35 = .ok (.getfield 71, 3) := by decide +kernel
theorem d118_38 : decode cX6_prepare 38 = .ok (.if_icmp .ge 20, 3) := by decide +kernel
theorem d118_41 : decode cX6_prepare 41 = .ok (.aload_n 0, 1) := by decide +kernel
theorem d118_42 : decode cX6_prepare 42 = .ok (.aload_n 1, 1) := by decide +kernel
theorem d118_43 : decode cX6_prepare 43 = .ok (.iload_n 2, 1) := by decide +kernel
theorem d118_44 : decode cX6_prepare 44 = .ok (.iload_n 3, 1) := by decide +kernel
theorem d118_45 : decode cX6_prepare 45 = .ok (.invokevirtual 74, 3) := by decide +kernel
theorem d118_48 : decode cX6_prepare 48 = .ok (.lconst 0, 1) := by decide +kernel
theorem d118_49 : decode cX6_prepare 49 = .ok (.invokevirtual 78, 3) := by decide +kernel
theorem d118_52 : decode cX6_prepare 52 = .ok (.iinc 3 1, 3) := by decide +kernel
theorem d118_55 : decode cX6_prepare 55 = .ok (.goto (-22), 3) := by decide +kernel
theorem d118_58 : decode cX6_prepare 58 = .ok (.iconst 0, 1) := by decide +kernel
theorem d118_59 : decode cX6_prepare 59 = .ok (.istore_n 3, 1) := by decide +kernel
theorem d118_60 : decode cX6_prepare 60 = .ok (.iload_n 3, 1) := by decide +kernel
theorem d118_61 : decode cX6_prepare 61 = .ok (.aload_n 1, 1) := by decide +kernel
theorem d118_62 : decode cX6_prepare 62 = .ok (.getfield 36, 3) := by decide +kernel
theorem d118_65 : decode cX6_prepare 65 = .ok (.getfield 82, 3) := by decide +kernel
theorem d118_68 : decode cX6_prepare 68 = .ok (.if_icmp .ge 31, 3) := by decide +kernel
theorem d118_71 : decode cX6_prepare 71 = .ok (.aload_n 1, 1) := by decide +kernel
theorem d118_72 : decode cX6_prepare 72 = .ok (.getfield 36, 3) := by decide +kernel
theorem d118_75 : decode cX6_prepare 75 = .ok (.getfield 83, 3) := by decide +kernel
theorem d118_78 : decode cX6_prepare 78 = .ok (.iload_n 3, 1) := by decide +kernel
theorem d118_79 : decode cX6_prepare 79 = .ok (.iaload, 1) := by decide +kernel
theorem d118_80 : decode cX6_prepare 80 = .ok (.iload_n 2, 1) := by decide +kernel
theorem d118_81 : decode cX6_prepare 81 = .ok (.if_icmp .ne 12, 3) := by decide +kernel
theorem d118_84 : decode cX6_prepare 84 = .ok (.aload_n 0, 1) := by decide +kernel
theorem d118_85 : decode cX6_prepare 85 = .ok (.aload_n 1, 1) := by decide +kernel
theorem d118_86 : decode cX6_prepare 86 = .ok (.getfield 36, 3) := by decide +kernel
theorem d118_89 : decode cX6_prepare 89 = .ok (.iload_n 3, 1) := by decide +kernel
theorem d118_90 : decode cX6_prepare 90 = .ok (.invokevirtual 86, 3) := by decide +kernel
theorem d118_93 : decode cX6_prepare 93 = .ok (.iinc 3 1, 3) := by decide +kernel
theorem d118_96 : decode cX6_prepare 96 = .ok (.goto (-36), 3) := by decide +kernel
theorem d118_99 : decode cX6_prepare 99 = .ok (.return_, 1) := by decide +kernel
theorem v118_0 {w : PW} {Q : PO → PW → Prop} {c : Nat} {x2 : Int} (hs : Sh w) (hc : bx c) (hx2 : bd x2) (h : ∀ w1 : PW, w1 = sI w 139 0 ((-2)) → ∀ w2 : PW, w2 = sI w1 139 1 0 → ∀ w3 : PW, w3 = sI w2 139 2 0 → ∀ w4 : PW, w4 = sCp w3 (c + 3) 142 36 → pX 118 33 [some (.ref 139), some (.ref c), some (iv x2), some (iv 0)] [] w4 Q) : pX 118 0 [some (.ref 139), some (.ref c), some (iv x2), none] [] w Q :=
  w_f b118 d118_0 rfl rfl rfl <| w_f b118 d118_1 rfl rfl rfl <| w_pi b118 d118_3 rfl rfl hs (tlt 139 rfl) tbC_139 rfl rfl rfl <| w_f b118 d118_6 rfl rfl rfl <| w_f b118 d118_7 rfl rfl rfl <| w_pi b118 d118_8 rfl rfl (Sh_sI hs (slt_o tbC_139 rfl)) (tlt 139 rfl) tbC_139 rfl rfl rfl <| w_f b118 d118_11 rfl rfl rfl <| w_f b118 d118_12 rfl rfl rfl <| w_pi b118 d118_13 rfl rfl (Sh_sI (Sh_sI hs (slt_o tbC_139 rfl)) (slt_o tbC_139 rfl)) (tlt 139 rfl) tbC_139 rfl rfl rfl <| w_f b118 d118_16 rfl rfl rfl <| w_gr b118 d118_17 rfl rfl (Sh_sI (Sh_sI (Sh_sI hs (slt_o tbC_139 rfl)) (slt_o tbC_139 rfl)) (slt_o tbC_139 rfl)) (bx00 hc) (tb0 hc) rfl (bxr hc 3 rfl) <| w_f b118 d118_20 rfl rfl rfl <| w_f b118 d118_21 rfl rfl rfl <| w_gr b118 d118_22 rfl rfl (Sh_sI (Sh_sI (Sh_sI hs (slt_o tbC_139 rfl)) (slt_o tbC_139 rfl)) (slt_o tbC_139 rfl)) (tlt 139 rfl) tbC_139 rfl (by decide) <| w_f b118 d118_25 rfl rfl rfl <| w_f b118 d118_26 rfl rfl rfl <| w_acpL b118 d118_28 rfl rfl rfl (Sh_sI (Sh_sI (Sh_sI hs (slt_o tbC_139 rfl)) (slt_o tbC_139 rfl)) (slt_o tbC_139 rfl)) (bxk hc 3 rfl) (tb3 hc) (tlt 142 rfl) tbC_142 ⟨by decide, by decide⟩ ⟨by decide, by decide, by decide⟩ <| w_f b118 d118_31 rfl rfl rfl <| w_f b118 d118_32 rfl rfl rfl <| ((((h _ rfl) _ rfl) _ rfl) _ rfl)
theorem e118 {w : PW} {Q : PO → PW → Prop} {c : Nat} {x2 : Int} (hs : Sh w) (hc : bx c) (hx2 : bd x2) (h : ∀ w1 : PW, w1 = sI w 139 0 ((-2)) → ∀ w2 : PW, w2 = sI w1 139 1 0 → ∀ w3 : PW, w3 = sI w2 139 2 0 → ∀ w4 : PW, w4 = sCp w3 (c + 3) 142 36 → pX 118 33 [some (.ref 139), some (.ref c), some (iv x2), some (iv 0)] [] w4 Q) : pC 118 [.ref 139, .ref c, iv x2] w Q :=
  (pC_in (Nat.le_of_ble_eq_true rfl) rfl Q).mpr (v118_0 hs hc hx2 h)
theorem v118_33 {w : PW} {Q : PO → PW → Prop} {c : Nat} {x2 : Int} {x3 : Int} (hs : Sh w) (hc : bx c) (hx2 : bd x2) (hx3 : bd x3) (h : ((gI w c 4) ≤ x3 → pX 118 60 [some (.ref 139), some (.ref c), some (iv x2), some (iv 0)] [] w Q) ∧ (x3 < (gI w c 4) → (bd ((gI w c 1) * x3 + x2)) ∧ (0 ≤ ((gI w c 1) * x3 + x2) ∧ ((gI w c 1) * x3 + x2) < 36) ∧ ∀ w2 : PW, w2 = sL w 142 (((gI w c 1) * x3 + x2)).toNat ((0 : Int64)) → pX 118 33 [some (.ref 139), some (.ref c), some (iv x2), some (iv (x3 + 1))] [] w2 Q)) : pX 118 33 [some (.ref 139), some (.ref c), some (iv x2), some (iv x3)] [] w Q :=
  w_f b118 d118_33 rfl rfl rfl <| w_f b118 d118_34 rfl rfl rfl <| w_gi b118 d118_35 rfl rfl hs (bx00 hc) (tb0 hc) rfl <| w_icge b118 d118_38 rfl rfl (p118 _ _) hx3 (bd_gI _ _ _) (fun c1 => w_f b118 d118_58 rfl rfl rfl <| w_f b118 d118_59 rfl rfl rfl <| (h.1 c1)) (fun c1 => w_f b118 d118_41 rfl rfl rfl <| w_f b118 d118_42 rfl rfl rfl <| w_f b118 d118_43 rfl rfl rfl <| w_f b118 d118_44 rfl rfl rfl <| w_cc b118 d118_45 rfl (pcl_v (n := 2) rfl rfl rfl (by decide +kernel) (sh_isOb hs (bx00 hc) (tb0 hc)) rfl rfl) rfl <| c28 hs hc hx2 hx3 <| w_f b118 d118_48 rfl rfl rfl <| w_cc b118 d118_49 rfl (pcl_v (n := 2) rfl rfl rfl (by decide +kernel) (sh_isOb hs (tlt 139 rfl) tbC_139) rfl rfl) rfl <| c115 hs (h.2 c1).1 (h.2 c1).2.1 <| w_f b118 d118_52 rfl (pf_iinc rfl rfl) rfl <| w_j b118 d118_55 rfl (p118 _ _) <| ((h.2 c1).2.2 _ rfl))
theorem v118_60 {w : PW} {Q : PO → PW → Prop} {c : Nat} {x2 : Int} {x3 : Int} (hs : Sh w) (hc : bx c) (hx2 : bd x2) (hx3 : bd x3) (h : ((gI w (c + 4) 0) ≤ x3 → Q (.inl none) w) ∧ (x3 < (gI w (c + 4) 0) → (0 ≤ x3 ∧ x3 < 60) ∧ ((gI w (c + 5) x3.toNat) ≠ x2 → pX 118 60 [some (.ref 139), some (.ref c), some (iv x2), some (iv (x3 + 1))] [] w Q) ∧ ((gI w (c + 5) x3.toNat) = x2 → pC 117 [.ref 139, .ref (c + 4), iv x3] w (kV fun w3 => Sh w3 ∧ pX 118 60 [some (.ref 139), some (.ref c), some (iv x2), some (iv (x3 + 1))] [] w3 Q)))) : pX 118 60 [some (.ref 139), some (.ref c), some (iv x2), some (iv x3)] [] w Q :=
  w_f b118 d118_60 rfl rfl rfl <| w_f b118 d118_61 rfl rfl rfl <| w_gr b118 d118_62 rfl rfl hs (bx00 hc) (tb0 hc) rfl (bxr hc 4 rfl) <| w_gi b118 d118_65 rfl rfl hs (bxk hc 4 rfl) (tb4 hc) rfl <| w_icge b118 d118_68 rfl rfl (p118 _ _) hx3 (bd_gI _ _ _) (fun c1 => w_rv b118 d118_99 r118 (h.1 c1)) (fun c1 => w_f b118 d118_71 rfl rfl rfl <| w_gr b118 d118_72 rfl rfl hs (bx00 hc) (tb0 hc) rfl (bxr hc 4 rfl) <| w_gr b118 d118_75 rfl rfl hs (bxk hc 4 rfl) (tb4 hc) rfl (bxr hc 5 rfl) <| w_f b118 d118_78 rfl rfl rfl <| w_ial b118 d118_79 rfl hs (bxk hc 5 rfl) (tb5 hc) (bdix (n := 60) (h.2 c1).1 rfl) (h.2 c1).1 <| w_f b118 d118_80 rfl rfl rfl <| w_icne b118 d118_81 rfl rfl (p118 _ _) (bd_gI _ _ _) hx2 (fun c2 => w_f b118 d118_93 rfl (pf_iinc rfl rfl) rfl <| w_j b118 d118_96 rfl (p118 _ _) <| ((h.2 c1).2.1 c2)) (fun c2 => w_f b118 d118_84 rfl rfl rfl <| w_f b118 d118_85 rfl rfl rfl <| w_gr b118 d118_86 rfl rfl hs (bx00 hc) (tb0 hc) rfl (bxr hc 4 rfl) <| w_f b118 d118_89 rfl rfl rfl <| w_c b118 d118_90 rfl (pcl_v (n := 2) rfl rfl rfl (by decide +kernel) (sh_isOb hs (tlt 139 rfl) tbC_139) rfl rfl) rfl _ (hK_V fun w3 hkw3 => w_f b118 d118_93 rfl (pf_iinc rfl rfl) rfl <| w_j b118 d118_96 rfl (p118 _ _) <| hkw3.2) ((h.2 c1).2.2 c2)))
theorem l118_60 {w : PW} {Q : PO → PW → Prop} {c : Nat} {m : Row} {u : Int} {w0 : PW} (hs : Sh w) (hC : BR w0 c m) (hu : bd u) (h : ∀ w2, Sh w2 → gI w2 139 2 = (ordR m u : Nat) → (∀ j, j ≠ 2 → gI w2 139 j = gI w0 139 j) → (∀ i, i < ordR m u → gI w2 140 i = (ordN m u i : Nat)) → (∀ a, a ≠ 139 → a ≠ 140 → w2.2.2 a = w0.2.2 a) → Q (.inl none) w2) : ∀ k i : Nat, i + k = (m 5).toNat → ∀ w1, Sh w1 → gI w1 139 2 = ((sOrd m u i).2 : Nat) → (∀ j, j ≠ 2 → gI w1 139 j = gI w0 139 j) → (∀ j, j < (sOrd m u i).2 → gI w1 140 j = ((sOrd m u i).1 j : Nat)) → (∀ a, a ≠ 139 → a ≠ 140 → w1.2.2 a = w0.2.2 a) → pX 118 60 [some (.ref 139), some (.ref c), some (iv (u : Int)), some (iv (i : Nat))] [] w1 Q := by
  have h5 := hC.ok.n
  intro k
  induction k with
  | zero =>
    intro i hi w1 s1 n1 hj hV hO
    have c1 := hC.cells (w' := w1) (fun k hk => by have := bx_at hC.bx; exact hO _ (by omega) (by omega))
    refine v118_60 s1 hC.bx hu (bdk (by omega)) ?_
    rw [c1.n]
    refine ⟨fun _ => ?_, fun q => by omega⟩
    rw [show i = (m 5).toNat from by omega] at n1 hV
    exact h w1 s1 n1 hj hV hO
  | succ k ih =>
    intro i hi w1 s1 n1 hj hV hO
    have c1 := hC.cells (w' := w1) (fun k hk => by have := bx_at hC.bx; exact hO _ (by omega) (by omega))
    have hi5 : (i : Int) < m 5 := by omega
    obtain ⟨f1, f2, f3⟩ := c1.N hi5
    have hok := sOrd_ok m u i
    refine v118_60 s1 hC.bx hu (bdk (by omega)) ?_
    rw [c1.n, Int.toNat_natCast, f1]
    refine ⟨fun q => by omega, fun _ => ⟨⟨by omega, by omega⟩, fun q => ?_, fun q => ?_⟩⟩
    · have e : sOrd m u (i + 1) = sOrd m u i := if_neg q
      exact ih (i + 1) (by omega) w1 s1 (by rw [e]; exact n1) hj (by rw [e]; exact hV) hO
    · have e : sOrd m u (i + 1) = (insO m (sOrd m u i).1 (sOrd m u i).2 i, (sOrd m u i).2 + 1) := if_pos q
      refine c117 s1 c1 (by omega) hi5 (fun j hj2 => ⟨hV j hj2, by have := hok.2 j hj2; omega⟩) n1 (fun w2 s2 n2 hj2 hV2 hO2 => ⟨s2, ih (i + 1) (by omega) w2 s2 (by rw [e]; exact n2) (fun j hj3 => by rw [hj2 j hj3, hj j hj3]) (by rw [e]; exact hV2) (fun a h1 h2 => by rw [hO2 a h1 h2, hO a h1 h2])⟩)
theorem l118_33 {w : PW} {Q : PO → PW → Prop} {c u : Nat} {m : Row} {w0 : PW} (hs : Sh w) (hC : BR w0 c m) (hu : (u : Int) < m 1) (h : ∀ w2, Sh w2 → (∀ j, j < 36 → gL w2 142 j = if j % (m 1).toNat = u ∧ j / (m 1).toNat < (m 4).toNat then 0 else gL w0 (c + 3) j) → (∀ a, a ≠ 142 → w2.2.2 a = w0.2.2 a) → pX 118 60 [some (.ref 139), some (.ref c), some (iv (u : Nat)), some (iv 0)] [] w2 Q) : ∀ k i : Nat, i + k = (m 4).toNat → ∀ w1, Sh w1 → (∀ j, j < 36 → gL w1 142 j = if j % (m 1).toNat = u ∧ j / (m 1).toNat < i then 0 else gL w0 (c + 3) j) → (∀ a, a ≠ 142 → w1.2.2 a = w0.2.2 a) → pX 118 33 [some (.ref 139), some (.ref c), some (iv (u : Nat)), some (iv (i : Nat))] [] w1 Q := by
  have h4 := hC.ok.t
  have h1 := hC.ok.u
  intro k
  induction k with
  | zero =>
    intro i hi w1 s1 hV hO
    have c1 := hC.cells (w' := w1) (fun k hk => by have := bx_at hC.bx; exact hO _ (by omega))
    refine v118_33 s1 hC.bx (bdk (by omega)) (bdk (by omega)) ?_
    rw [c1.t]
    refine ⟨fun _ => ?_, fun q => by omega⟩
    rw [show i = (m 4).toNat from by omega] at hV
    exact h w1 s1 hV hO
  | succ k ih =>
    intro i hi w1 s1 hV hO
    have c1 := hC.cells (w' := w1) (fun k hk => by have := bx_at hC.bx; exact hO _ (by omega))
    have htb := hC.lPb hu (show i < 12 from by omega)
    have hlt := trk_lt hC.ok hu (show i < 12 from by omega)
    have huU : u < (m 1).toNat := by omega
    refine v118_33 s1 hC.bx (bdk (by omega)) (bdk (by omega)) ?_
    rw [c1.t, c1.u]
    refine ⟨fun q => by omega, fun _ => ⟨htb.1, htb.2, fun w2 e2 => ?_⟩⟩
    rw [hC.trk hu, Int.toNat_natCast] at e2
    obtain ⟨s2, g2, -, k2⟩ := stL e2 s1 (by omega) tbC_142
    refine ih (i + 1) (by omega) w2 s2 (fun j hj => ?_) (fun a ha => by rw [k2 a ha, hO a ha])
    rw [g2]
    by_cases e : j = (m 1).toNat * i + u
    · subst e
      rw [if_pos ⟨rfl, rfl⟩, if_pos]
      rw [Nat.mul_add_mod, Nat.mod_eq_of_lt huU, Nat.mul_add_div (by omega), Nat.div_eq_of_lt huU]
      exact ⟨rfl, by omega⟩
    · rw [if_neg (fun z => e z.2), hV j hj]
      by_cases q : j % (m 1).toNat = u ∧ j / (m 1).toNat < i
      · rw [if_pos q, if_pos ⟨q.1, by omega⟩]
      · rw [if_neg q, if_neg]
        intro z
        have q2 : j / (m 1).toNat = i := by
          rcases Nat.lt_or_ge (j / (m 1).toNat) i with q3 | q3
          · exact absurd ⟨z.1, q3⟩ q
          · omega
        have := Nat.div_add_mod j (m 1).toNat
        rw [q2, z.1] at this
        omega
theorem c118 {w : PW} {Q : PO → PW → Prop} {c u : Nat} {m : Row} (hs : Sh w) (hC : BR w c m) (hu : (u : Int) < m 1) (h : ∀ w2, Sh w2 → gI w2 139 0 = -2 → gI w2 139 1 = 0 → gI w2 139 2 = (ordR m u : Nat) → (∀ i, i < ordR m u → gI w2 140 i = (ordN m u i : Nat)) → (∀ j, j < 36 → gL w2 142 j = if j % (m 1).toNat = u ∧ j / (m 1).toNat < (m 4).toNat then 0 else gL w (c + 3) j) → SF w w2 → Q (.inl none) w2) : pC 118 [.ref 139, .ref c, iv (u : Nat)] w Q := by
  have h1 := hC.ok.u
  have hat := bx_at hC.bx
  have a0 := bx_lt hC.bx
  refine e118 hs hC.bx (bdk (by omega)) (fun w1 e1 w2 e2 w3 e3 w4 e4 => ?_)
  obtain ⟨s1, g1, l1, k1⟩ := stI e1 hs (by omega) (slt_o tbC_139 rfl) ⟨by decide, by decide⟩
  obtain ⟨s2, g2, l2, k2⟩ := stI e2 s1 (by omega) (slt_o tbC_139 rfl) bd0
  obtain ⟨s3, g3, l3, k3⟩ := stI e3 s2 (by omega) (slt_o tbC_139 rfl) bd0
  obtain ⟨s4, l4, g4, k4⟩ := stD e4 s3 (by omega) (tb3 hC.bx) (by omega) tbC_142
  have hC4 : BR w4 c m := hC.cells (fun k hk => by rw [k4 _ (by omega), k3 _ (by omega), k2 _ (by omega), k1 _ (by omega)])
  refine l118_33 (w := w) (w0 := w4) hs hC4 hu (fun w5 s5 hV hO => ?_) (m 4).toNat 0 (Nat.zero_add _) w4 s4 (fun j hj => ?_) (fun _ _ => rfl)
  · have hC5 : BR w5 c m := hC4.cells (fun k hk => hO _ (by omega))
    refine l118_60 (w := w) (w0 := w5) hs hC5 (bdk (by omega)) (fun w6 s6 n6 hj hV6 hO6 => ?_) (m 5).toNat 0 (Nat.zero_add _) w5 s5 ?_ (fun _ _ => rfl) (fun j hj => absurd hj (Nat.not_lt_zero j)) (fun _ _ _ => rfl)
    · refine h w6 s6 ?_ ?_ n6 hV6 (fun j hj2 => ?_) (fun a ha => by rw [hO6 a (by omega) (by omega), hO a (by omega), k4 a (by omega), k3 a (by omega), k2 a (by omega), k1 a (by omega)])
      · rw [hj 0 (by decide), gI_cell (hO 139 (by decide)), g4, g3, if_neg (by omega), g2, if_neg (by omega), g1, if_pos ⟨rfl, rfl⟩]
      · rw [hj 1 (by decide), gI_cell (hO 139 (by decide)), g4, g3, if_neg (by omega), g2, if_pos ⟨rfl, rfl⟩]
      · rw [gL_cell (hO6 142 (by decide) (by decide)), hV j hj2, gL_cell (k4 (c + 3) (by omega)), l3, l2, l1]
    · rw [gI_cell (hO 139 (by decide)), g4, g3, if_pos ⟨rfl, rfl⟩]
      rfl
  · rw [if_neg (fun z => absurd z.2 (Nat.not_lt_zero _)), l4, if_pos ⟨rfl, hj⟩, gL_cell (k4 (c + 3) (by omega))]

