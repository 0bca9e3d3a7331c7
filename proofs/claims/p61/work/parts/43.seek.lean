/-! THE SEARCH: its steps; the class -/
/-- the state: how deep, how many tries, what is chosen -/
abbrev SS : Type := Nat × Nat × (Nat → Int)
def sNext (m : Row) (p : Int) (but : Int) (t0 : Int) (t : Nat) : Bool := decide (t0 < (t : Int)) && (decide (rT m t 0 = p) && decide ((t : Int) ≠ but))
def sTry (m : Row) (u but : Int) (σ : SS) : Nat := fnd (sNext m (rN m (ordN m u σ.1) 2) but (σ.2.2 σ.1)) (m 4).toNat
def sStp (m : Row) (u : Int) (k : Nat) : Int := rN m (ordN m u k) 1
def sBad (m : Row) (u : Int) (ch : Nat → Int) (d t k : Nat) : Bool := (decide (ch k = (t : Int)) && nearI (m 0) (sStp m u d) (sStp m u k) (sNeed m t)) || (decide (m 1 * ch k = m 1 * (t : Int) + 1 ∨ m 1 * ch k = m 1 * (t : Int) - 1) && nearI (m 0) (sStp m u d) (sStp m u k) (m 2))
def sStr (m : Row) (u : Int) (x : Int) (s : Int) : Bool := decide (0 ≤ x) && (decide (x % m 1 ≠ u) && decide (0 < cnt (fun r => rTr m x.toNat r && nearI (m 0) s r (m 2)) (m 0).toNat))
def sFit (m : Row) (u : Int) (ch : Nat → Int) (d t : Nat) : Bool := decide (sNeed m t ≤ m 0) && (decide (cnt (sBad m u ch d t) d = 0) && (!sStr m u (m 1 * (t : Int) + u - 1) (sStp m u d) && !sStr m u (m 1 * (t : Int) + u + 1) (sStp m u d)))
def chSet (ch : Nat → Int) (k : Nat) (z : Int) : Nat → Int := fun j => if j = k then z else ch j
/-- rounds of the search: the outcome (1, 0; -2: too many tries; -9: out of rounds) and the last state -/
def sRun (m : Row) (u but : Int) : Nat → SS → Int × SS
  | 0, σ => (-9, σ)
  | n + 1, σ => if ordR m u ≤ σ.1 then (1, σ) else
    if sTry m u but σ < (m 4).toNat then
      (if 4000 ≤ σ.2.1 then (-2, σ) else
        if sFit m u σ.2.2 σ.1 (sTry m u but σ) = true then sRun m u but n (σ.1 + 1, σ.2.1 + 1, chSet (chSet σ.2.2 σ.1 (sTry m u but σ : Nat)) (σ.1 + 1) (-1))
        else sRun m u but n (σ.1, σ.2.1 + 1, chSet σ.2.2 σ.1 (sTry m u but σ : Nat)))
    else if σ.1 = 0 then (0, σ) else sRun m u but n (σ.1 - 1, σ.2)
def sSeek (m : Row) (u but : Int) : Int × SS := sRun m u but 12000 (0, 0, fun _ => -1)
theorem sRun_fuel (m : Row) (u but : Int) : ∀ (n : Nat) (σ : SS), σ.2.1 ≤ 4000 → 2 * (4000 - σ.2.1) + σ.1 < n → (sRun m u but n σ).1 ≠ -9 := by
  intro n
  induction n with
  | zero => intro σ _ h; omega
  | succ n ih =>
    intro σ h1 h2
    unfold sRun
    split
    · show (1 : Int) ≠ -9
      decide
    · split
      · split
        · show (-2 : Int) ≠ -9
          decide
        · split
          · exact ih _ (by show σ.2.1 + 1 ≤ 4000; omega) (by show 2 * (4000 - (σ.2.1 + 1)) + (σ.1 + 1) < n; omega)
          · exact ih _ (by show σ.2.1 + 1 ≤ 4000; omega) (by show 2 * (4000 - (σ.2.1 + 1)) + σ.1 < n; omega)
      · split
        · show (0 : Int) ≠ -9
          decide
        · exact ih _ h1 (by show 2 * (4000 - σ.2.1) + (σ.1 - 1) < n; omega)
theorem sSeek_fuel (m : Row) (u but : Int) : (sSeek m u but).1 ≠ -9 := sRun_fuel m u but 12000 _ (Nat.zero_le _) (by show 2 * (4000 - 0) + 0 < 12000; decide)
/-! 119: PinBarrel$Search.toothBehind(ILPinBarrel$Box;II)I -/
theorem b119 : mB 119 = cX6_toothBehind := rfl
theorem r119 : mR 119 = (some .int) := rfl
theorem p119 (a b : Nat) : phi 119 a ≤ phi 119 b := Nat.le_refl 0
theorem d119_0 : decode cX6_toothBehind 0 = .ok (.iload_n 0, 1) := by decide +kernel
theorem d119_1 : decode cX6_toothBehind 1 = .ok (.iconst 1, 1) := by decide +kernel
theorem d119_2 : decode cX6_toothBehind 2 = .ok (.iadd, 1) := by decide +kernel
theorem d119_3 : decode cX6_toothBehind 3 = .ok (.istore 4, 2) := by decide +kernel
theorem d119_5 : decode cX6_toothBehind 5 = .ok (.iload 4, 2) := by decide +kernel
theorem d119_7 : decode cX6_toothBehind 7 = .ok (.aload_n 1, 1) := by decide +kernel
theorem d119_8 : decode cX6_toothBehind 8 = .ok (.getfield 71, 3) := by decide +kernel
theorem d119_11 : decode cX6_toothBehind 11 = .ok (.if_icmp .ge 29, 3) := by decide +kernel
theorem d119_14 : decode cX6_toothBehind 14 = .ok (.aload_n 1, 1) := by decide +kernel
theorem d119_15 : decode cX6_toothBehind 15 = .ok (.getfield 97, 3) := by decide +kernel
theorem d119_18 : decode cX6_toothBehind 18 = .ok (.iload 4, 2) := by decide +kernel
theorem d119_20 : decode cX6_toothBehind 20 = .ok (.iaload, 1) := by decide +kernel
theorem d119_21 : decode cX6_toothBehind 21 = .ok (.iload_n 2, 1) := by decide +kernel
theorem d119_22 : decode cX6_toothBehind 22 = .ok (.if_icmp .ne 12, 3) := by decide +kernel
theorem d119_25 : decode cX6_toothBehind 25 = .ok (.iload 4, 2) := by decide +kernel
theorem d119_27 : decode cX6_toothBehind 27 = .ok (.iload_n 3, 1) := by decide +kernel
theorem d119_28 : decode cX6_toothBehind 28 = .ok (.if_icmp .eq 6, 3) := by decide +kernel
theorem d119_31 : decode cX6_toothBehind 31 = .ok (.iload 4, 2) := by decide +kernel
theorem d119_33 : decode cX6_toothBehind 33 = .ok (.ireturn, 1) := by decide +kernel
theorem d119_34 : decode cX6_toothBehind 34 = .ok (.iinc 4 1, 3) := by decide +kernel
theorem d119_37 : decode cX6_toothBehind 37 = .ok (.goto (-32), 3) := by decide +kernel
theorem d119_40 : decode cX6_toothBehind 40 = .ok (.iconst (-1), 1) := by decide +kernel
theorem d119_41 : decode cX6_toothBehind 41 = .ok (.ireturn, 1) := by decide +kernel
theorem v119_0 {w : PW} {Q : PO → PW → Prop} {x0 : Int} {c : Nat} {x2 : Int} {x3 : Int} (hs : Sh w) (hx0 : bd x0) (hc : bx c) (hx2 : bd x2) (hx3 : bd x3) (h : pX 119 5 [some (iv x0), some (.ref c), some (iv x2), some (iv x3), some (iv (x0 + 1))] [] w Q) : pX 119 0 [some (iv x0), some (.ref c), some (iv x2), some (iv x3), none] [] w Q :=
  w_f b119 d119_0 rfl rfl rfl <| w_f b119 d119_1 rfl rfl rfl <| w_f b119 d119_2 rfl (pf_iadd x0 1) rfl <| w_f b119 d119_3 rfl rfl rfl <| h
theorem e119 {w : PW} {Q : PO → PW → Prop} {x0 : Int} {c : Nat} {x2 : Int} {x3 : Int} (hs : Sh w) (hx0 : bd x0) (hc : bx c) (hx2 : bd x2) (hx3 : bd x3) (h : pX 119 5 [some (iv x0), some (.ref c), some (iv x2), some (iv x3), some (iv (x0 + 1))] [] w Q) : pC 119 [iv x0, .ref c, iv x2, iv x3] w Q :=
  (pC_in (Nat.le_of_ble_eq_true rfl) rfl Q).mpr (v119_0 hs hx0 hc hx2 hx3 h)
theorem v119_5 {w : PW} {Q : PO → PW → Prop} {x0 : Int} {c : Nat} {x2 : Int} {x3 : Int} {x4 : Int} (hs : Sh w) (hx0 : bd x0) (hc : bx c) (hx2 : bd x2) (hx3 : bd x3) (hx4 : bd x4) (h : ((gI w c 4) ≤ x4 → Q (.inl (some (iv ((-1))))) w) ∧ (x4 < (gI w c 4) → (0 ≤ x4 ∧ x4 < 12) ∧ ((gI w (c + 1) x4.toNat) ≠ x2 → pX 119 5 [some (iv x0), some (.ref c), some (iv x2), some (iv x3), some (iv (x4 + 1))] [] w Q) ∧ ((gI w (c + 1) x4.toNat) = x2 → (x4 = x3 → pX 119 5 [some (iv x0), some (.ref c), some (iv x2), some (iv x3), some (iv (x4 + 1))] [] w Q) ∧ (x4 ≠ x3 → Q (.inl (some (iv x4))) w)))) : pX 119 5 [some (iv x0), some (.ref c), some (iv x2), some (iv x3), some (iv x4)] [] w Q :=
  w_f b119 d119_5 rfl rfl rfl <| w_f b119 d119_7 rfl rfl rfl <| w_gi b119 d119_8 rfl rfl hs (bx00 hc) (tb0 hc) rfl <| w_icge b119 d119_11 rfl rfl (p119 _ _) hx4 (bd_gI _ _ _) (fun c1 => w_f b119 d119_40 rfl rfl rfl <| w_ri b119 d119_41 r119 (h.1 c1)) (fun c1 => w_f b119 d119_14 rfl rfl rfl <| w_gr b119 d119_15 rfl rfl hs (bx00 hc) (tb0 hc) rfl (bxr hc 1 rfl) <| w_f b119 d119_18 rfl rfl rfl <| w_ial b119 d119_20 rfl hs (bxk hc 1 rfl) (tb1 hc) (bdix (n := 12) (h.2 c1).1 rfl) (h.2 c1).1 <| w_f b119 d119_21 rfl rfl rfl <| w_icne b119 d119_22 rfl rfl (p119 _ _) (bd_gI _ _ _) hx2 (fun c2 => w_f b119 d119_34 rfl (pf_iinc rfl rfl) rfl <| w_j b119 d119_37 rfl (p119 _ _) <| ((h.2 c1).2.1 c2)) (fun c2 => w_f b119 d119_25 rfl rfl rfl <| w_f b119 d119_27 rfl rfl rfl <| w_iceq b119 d119_28 rfl rfl (p119 _ _) hx4 hx3 (fun c3 => w_f b119 d119_34 rfl (pf_iinc rfl rfl) rfl <| w_j b119 d119_37 rfl (p119 _ _) <| (((h.2 c1).2.2 c2).1 c3)) (fun c3 => w_f b119 d119_31 rfl rfl rfl <| w_ri b119 d119_33 r119 (((h.2 c1).2.2 c2).2 c3))))
theorem l119_5 {w : PW} {Q : PO → PW → Prop} {c : Nat} {m : Row} {x0 p but : Int} (hs : Sh w) (hC : BR w c m) (hx0 : -1 ≤ x0 ∧ x0 < 12) (hp : bd p) (hbut : bd but) (h : Q (.inl (some (iv (if fnd (sNext m p but x0) (m 4).toNat < (m 4).toNat then (fnd (sNext m p but x0) (m 4).toNat : Int) else -1)))) w) : ∀ k i : Nat, i + k = (m 4).toNat → x0 < (i : Int) → (∀ j : Nat, j < i → sNext m p but x0 j = false) → pX 119 5 [some (iv x0), some (.ref c), some (iv p), some (iv but), some (iv (i : Nat))] [] w Q := by
  have h4 := hC.ok.t
  intro k
  induction k with
  | zero =>
    intro i hi hx hI
    refine v119_5 hs ⟨by omega, by omega⟩ hC.bx hp hbut (bdk (by omega)) ?_
    rw [hC.t]
    refine ⟨fun _ => ?_, fun q => by omega⟩
    have e : fnd (sNext m p but x0) (m 4).toNat = i := fnd_eq hI (fun q => absurd q (by omega)) (by omega)
    rw [e, if_neg (by omega)] at h
    exact h
  | succ k ih =>
    intro i hi hx hI
    obtain ⟨e1, e2, e3, e4, e5⟩ := hC.T (t := i) (by omega)
    refine v119_5 hs ⟨by omega, by omega⟩ hC.bx hp hbut (bdk (by omega)) ?_
    rw [hC.t, Int.toNat_natCast, e1]
    have hn : sNext m p but x0 i = false → _ := fun q => ih (i + 1) (by omega) (by omega) (fun j hj => by
      by_cases e : j = i
      · subst e; exact q
      · exact hI j (by omega))
    refine ⟨fun q => by omega, fun _ => ⟨⟨by omega, by omega⟩, fun q => hn ?_, fun q => ⟨fun q2 => hn ?_, fun q2 => ?_⟩⟩⟩
    · unfold sNext
      rw [decide_eq_false (p := rT m i 0 = p) q, Bool.false_and, Bool.and_false]
    · unfold sNext
      rw [decide_eq_false (p := (i : Int) ≠ but) (fun z => z q2), Bool.and_false, Bool.and_false]
    · have e : fnd (sNext m p but x0) (m 4).toNat = i := fnd_eq hI (fun _ => by
        unfold sNext
        rw [decide_eq_true q, decide_eq_true q2, decide_eq_true hx]; rfl) (by omega)
      rw [e, if_pos (by omega)] at h
      exact h
theorem c119 {w : PW} {Q : PO → PW → Prop} {c : Nat} {m : Row} {x0 p but : Int} (hs : Sh w) (hC : BR w c m) (hx0 : -1 ≤ x0 ∧ x0 < m 4) (hp : bd p) (hbut : bd but) (h : Q (.inl (some (iv (if fnd (sNext m p but x0) (m 4).toNat < (m 4).toNat then (fnd (sNext m p but x0) (m 4).toNat : Int) else -1)))) w) : pC 119 [iv x0, .ref c, iv p, iv but] w Q := by
  have h4 := hC.ok.t
  refine e119 hs ⟨by omega, by omega⟩ hC.bx hp hbut ?_
  have := l119_5 hs hC ⟨by omega, by omega⟩ hp hbut h ((m 4).toNat - (x0 + 1).toNat) (x0 + 1).toNat (by omega) (by omega) (fun j hj => by
    unfold sNext
    rw [decide_eq_false (by omega), Bool.false_and])
  rw [show (((x0 + 1).toNat : Nat) : Int) = x0 + 1 from by omega] at this
  exact this
/-- which pins were laid on a track -/
def sLaid (m : Row) (u : Int) (ch : Nat → Int) (d j s : Nat) : Bool := decide (0 < cnt (fun k => decide (m 1 * ch k + u = (j : Int)) && decide (sStp m u k = (s : Int))) d)
def TrS (w : PW) (m : Row) (u : Nat) (ch : Nat → Int) (d : Nat) : Prop := ∀ j s, j < 36 → s < 64 → tL (gL w 142 j) s = if j % (m 1).toNat = u ∧ j < (m 1).toNat * (m 4).toNat then sLaid m u ch d j s else rTr m j s
/-- what is known of the choices -/
def ChOK (m : Row) (u : Int) (ch : Nat → Int) (d : Nat) : Prop := (∀ k, k < d → 0 ≤ ch k ∧ ch k < m 4) ∧ ∀ i j, i < j → j < d → ch i = ch j → sStp m u i ≠ sStp m u j
theorem sStp_bd {m : Row} (h : RowOK m) {u : Int} {k : Nat} (hk : k < ordR m u) : 0 ≤ sStp m u k ∧ sStp m u k < m 0 := (h.N (ordN_ok h hk).1).2.1
theorem nearI_same {S a n : Int} (h : 0 < n) : nearI S a a n = true := decide_eq_true (Or.inl ⟨rfl, h⟩)
theorem ChOK.push {m : Row} (h : RowOK m) {u : Int} {ch : Nat → Int} {d t : Nat} (hc : ChOK m u ch d) (ht : (t : Int) < m 4) (hf : sFit m u ch d t = true) : ChOK m u (chSet ch d t) (d + 1) := by
  unfold sFit at hf
  simp only [Bool.and_eq_true, decide_eq_true_eq] at hf
  obtain ⟨-, hb, -⟩ := hf
  have hbad : ∀ k, k < d → sBad m u ch d t k = false := by
    intro k hk
    cases q : sBad m u ch d t k with
    | false => rfl
    | true => have := cnt_pos hk q; omega
  refine ⟨fun k hk => ?_, fun i j hij hj he => ?_⟩
  · unfold chSet
    by_cases q : k = d
    · rw [if_pos q]; omega
    · rw [if_neg q]; exact hc.1 k (by omega)
  · unfold chSet at he
    rw [if_neg (by omega)] at he
    by_cases q : j = d
    · rw [if_pos q] at he
      have hb2 := hbad i (by omega)
      unfold sBad at hb2
      rw [decide_eq_true he, Bool.true_and] at hb2
      intro e
      rw [q] at e
      rw [e, nearI_same (by have := sNeed_bd h ht; omega), Bool.true_or] at hb2
      cases hb2
    · rw [if_neg q] at he
      exact hc.2 i j hij (by omega) he
theorem lT_in {w : PW} {j : Nat} (hj : j < 36) : lT w (j : Int) = gL w 142 j := by
  unfold lT
  rw [if_pos ⟨by omega, by omega⟩, Int.toNat_natCast]
theorem lT_out {w : PW} {x : Int} (hx : x < 0 ∨ 36 ≤ x) : lT w x = 0 := by
  unfold lT
  rw [if_neg (by omega)]
/-- no bit in common -/
theorem and_zero {X Y : Int64} : X &&& Y = 0 ↔ ∀ s, s < 64 → tL X s = true → tL Y s = false := by
  rw [tL_zero]
  constructor
  · intro h s hs hx
    have := h s hs
    rw [tL_and, hx, Bool.true_and] at this
    exact this
  · intro h s hs
    rw [tL_and]
    cases q : tL X s with
    | false => rfl
    | true => rw [h s hs q]; rfl

