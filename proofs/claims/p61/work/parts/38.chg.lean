/-! CHANGES of pins and notes: the class -/
/-! 30: PinBarrel$Box.putPinsOn(IJ)V -/
theorem b30 : mB 30 = cX0_putPinsOn := rfl
theorem r30 : mR 30 = none := rfl
theorem p30 (a b : Nat) : phi 30 a ≤ phi 30 b := Nat.le_refl 0
theorem d30_0 : decode cX0_putPinsOn 0 = .ok (.iload_n 1, 1) := by decide +kernel
theorem d30_1 : decode cX0_putPinsOn 1 = .ok (.ifCond .lt 16, 3) := by decide +kernel
theorem d30_4 : decode cX0_putPinsOn 4 = .ok (.iload_n 1, 1) := by decide +kernel
theorem d30_5 : decode cX0_putPinsOn 5 = .ok (.bipush 36, 2) := by decide +kernel
theorem d30_7 : decode cX0_putPinsOn 7 = .ok (.if_icmp .ge 10, 3) := by decide +kernel
theorem d30_10 : decode cX0_putPinsOn 10 = .ok (.aload_n 0, 1) := by decide +kernel
theorem d30_11 : decode cX0_putPinsOn 11 = .ok (.getfield 34, 3) := by decide +kernel
theorem d30_14 : decode cX0_putPinsOn 14 = .ok (.iload_n 1, 1) := by decide +kernel
theorem d30_15 : decode cX0_putPinsOn 15 = .ok (.lload_n 2, 1) := by decide +kernel
theorem d30_16 : decode cX0_putPinsOn 16 = .ok (.lastore, 1) := by decide +kernel
theorem d30_17 : decode cX0_putPinsOn 17 = .ok (.return_, 1) := by decide +kernel
theorem v30_0 {w : PW} {Q : PO → PW → Prop} {b : Nat} {x1 : Int} {y2 : Int64} (hs : Sh w) (hb : bx b) (hx1 : bd x1) (h : (x1 < 0 → Q (.inl none) w) ∧ (0 ≤ x1 → (36 ≤ x1 → Q (.inl none) w) ∧ (x1 < 36 → (0 ≤ x1 ∧ x1 < 36) ∧ ∀ w3 : PW, w3 = sL w (b + 3) x1.toNat y2 → Q (.inl none) w3))) : pX 30 0 [some (.ref b), some (iv x1), some (.long y2), none] [] w Q :=
  w_f b30 d30_0 rfl rfl rfl <| w_iflt b30 d30_1 rfl rfl (p30 _ _) hx1 (fun c1 => w_rv b30 d30_17 r30 (h.1 c1)) (fun c1 => w_f b30 d30_4 rfl rfl rfl <| w_f b30 d30_5 rfl rfl rfl <| w_icge b30 d30_7 rfl rfl (p30 _ _) hx1 ⟨by decide, by decide⟩ (fun c2 => w_rv b30 d30_17 r30 ((h.2 c1).1 c2)) (fun c2 => w_f b30 d30_10 rfl rfl rfl <| w_gr b30 d30_11 rfl rfl hs (bx00 hb) (tb0 hb) rfl (bxr hb 3 rfl) <| w_f b30 d30_14 rfl rfl rfl <| w_f b30 d30_15 rfl rfl rfl <| w_las b30 d30_16 rfl hs (bxk hb 3 rfl) (tb3 hb) (bdix (n := 36) ((h.2 c1).2 c2).1 rfl) ((h.2 c1).2 c2).1 <| w_rv b30 d30_17 r30 (((h.2 c1).2 c2).2 _ rfl)))
theorem e30 {w : PW} {Q : PO → PW → Prop} {b : Nat} {x1 : Int} {y2 : Int64} (hs : Sh w) (hb : bx b) (hx1 : bd x1) (h : (x1 < 0 → Q (.inl none) w) ∧ (0 ≤ x1 → (36 ≤ x1 → Q (.inl none) w) ∧ (x1 < 36 → (0 ≤ x1 ∧ x1 < 36) ∧ ∀ w3 : PW, w3 = sL w (b + 3) x1.toNat y2 → Q (.inl none) w3))) : pC 30 [.ref b, iv x1, .long y2] w Q :=
  (pC_in (Nat.le_of_ble_eq_true rfl) rfl Q).mpr (v30_0 hs hb hx1 h)
/-! 115: PinBarrel$Search.putPinsOn(IJ)V -/
theorem b115 : mB 115 = cX6_putPinsOn := rfl
theorem r115 : mR 115 = none := rfl
theorem p115 (a b : Nat) : phi 115 a ≤ phi 115 b := Nat.le_refl 0
theorem d115_0 : decode cX6_putPinsOn 0 = .ok (.iload_n 1, 1) := by decide +kernel
theorem d115_1 : decode cX6_putPinsOn 1 = .ok (.ifCond .lt 16, 3) := by decide +kernel
theorem d115_4 : decode cX6_putPinsOn 4 = .ok (.iload_n 1, 1) := by decide +kernel
theorem d115_5 : decode cX6_putPinsOn 5 = .ok (.bipush 36, 2) := by decide +kernel
theorem d115_7 : decode cX6_putPinsOn 7 = .ok (.if_icmp .ge 10, 3) := by decide +kernel
theorem d115_10 : decode cX6_putPinsOn 10 = .ok (.aload_n 0, 1) := by decide +kernel
theorem d115_11 : decode cX6_putPinsOn 11 = .ok (.getfield 28, 3) := by decide +kernel
theorem d115_14 : decode cX6_putPinsOn 14 = .ok (.iload_n 1, 1) := by decide +kernel
theorem d115_15 : decode cX6_putPinsOn 15 = .ok (.lload_n 2, 1) := by decide +kernel
theorem d115_16 : decode cX6_putPinsOn 16 = .ok (.lastore, 1) := by decide +kernel
theorem d115_17 : decode cX6_putPinsOn 17 = .ok (.return_, 1) := by decide +kernel
theorem v115_0 {w : PW} {Q : PO → PW → Prop} {x1 : Int} {y2 : Int64} (hs : Sh w) (hx1 : bd x1) (h : (x1 < 0 → Q (.inl none) w) ∧ (0 ≤ x1 → (36 ≤ x1 → Q (.inl none) w) ∧ (x1 < 36 → (0 ≤ x1 ∧ x1 < 36) ∧ ∀ w3 : PW, w3 = sL w 142 x1.toNat y2 → Q (.inl none) w3))) : pX 115 0 [some (.ref 139), some (iv x1), some (.long y2), none] [] w Q :=
  w_f b115 d115_0 rfl rfl rfl <| w_iflt b115 d115_1 rfl rfl (p115 _ _) hx1 (fun c1 => w_rv b115 d115_17 r115 (h.1 c1)) (fun c1 => w_f b115 d115_4 rfl rfl rfl <| w_f b115 d115_5 rfl rfl rfl <| w_icge b115 d115_7 rfl rfl (p115 _ _) hx1 ⟨by decide, by decide⟩ (fun c2 => w_rv b115 d115_17 r115 ((h.2 c1).1 c2)) (fun c2 => w_f b115 d115_10 rfl rfl rfl <| w_gr b115 d115_11 rfl rfl hs (tlt 139 rfl) tbC_139 rfl (by decide) <| w_f b115 d115_14 rfl rfl rfl <| w_f b115 d115_15 rfl rfl rfl <| w_las b115 d115_16 rfl hs (tlt 142 rfl) tbC_142 (bdix (n := 36) ((h.2 c1).2 c2).1 rfl) ((h.2 c1).2 c2).1 <| w_rv b115 d115_17 r115 (((h.2 c1).2 c2).2 _ rfl)))
theorem e115 {w : PW} {Q : PO → PW → Prop} {x1 : Int} {y2 : Int64} (hs : Sh w) (hx1 : bd x1) (h : (x1 < 0 → Q (.inl none) w) ∧ (0 ≤ x1 → (36 ≤ x1 → Q (.inl none) w) ∧ (x1 < 36 → (0 ≤ x1 ∧ x1 < 36) ∧ ∀ w3 : PW, w3 = sL w 142 x1.toNat y2 → Q (.inl none) w3))) : pC 115 [.ref 139, iv x1, .long y2] w Q :=
  (pC_in (Nat.le_of_ble_eq_true rfl) rfl Q).mpr (v115_0 hs hx1 h)
theorem c30 {w : PW} {Q : PO → PW → Prop} {b : Nat} {x1 : Int} {y2 : Int64} (hs : Sh w) (hb : bx b) (hx1 : bd x1) (h1 : 0 ≤ x1 ∧ x1 < 36) (h : Q (.inl none) (sL w (b + 3) x1.toNat y2)) : pC 30 [.ref b, iv x1, .long y2] w Q :=
  e30 hs hb hx1 ⟨fun q => by omega, fun _ => ⟨fun q => by omega, fun _ => ⟨h1, fun w3 e3 => by subst e3; exact h⟩⟩⟩
theorem c115 {w : PW} {Q : PO → PW → Prop} {x1 : Int} {y2 : Int64} (hs : Sh w) (hx1 : bd x1) (h1 : 0 ≤ x1 ∧ x1 < 36) (h : Q (.inl none) (sL w 142 x1.toNat y2)) : pC 115 [.ref 139, iv x1, .long y2] w Q :=
  e115 hs hx1 ⟨fun q => by omega, fun _ => ⟨fun q => by omega, fun _ => ⟨h1, fun w3 e3 => by subst e3; exact h⟩⟩⟩
section OKS
variable {m m' : Row}
theorem ok_T (h : RowOK m) (e4 : m' 4 = m 4) (e8 : m' 8 = m 8) (e9 : m' 9 = m 9) (e : ∀ t k, t < 12 → k < 5 → rT m' t k = rT m t k) : ∀ t : Nat, (t : Int) < m' 4 → (0 ≤ rT m' t 0 ∧ rT m' t 0 < 24) ∧ (1 ≤ rT m' t 1 ∧ rT m' t 1 ≤ 12) ∧ (0 ≤ rT m' t 2 ∧ rT m' t 2 ≤ m' 9) ∧ (0 ≤ rT m' t 3 ∧ rT m' t 3 ≤ m' 9) ∧ (-1 ≤ rT m' t 4 ∧ rT m' t 4 ≤ m' 8) := by
  intro t ht
  have h4 := h.t
  rw [e4] at ht
  rw [e t 0 (by omega) (by decide), e t 1 (by omega) (by decide), e t 2 (by omega) (by decide), e t 3 (by omega) (by decide), e t 4 (by omega) (by decide), e8, e9]
  exact h.T ht
theorem ok_N (h : RowOK m) (e0 : m' 0 = m 0) (e1 : m' 1 = m 1) (e5 : m' 5 = m 5) (e : ∀ i k, i < 60 → k < 3 → rN m' i k = rN m i k) : ∀ i : Nat, (i : Int) < m' 5 → (0 ≤ rN m' i 0 ∧ rN m' i 0 < m' 1) ∧ (0 ≤ rN m' i 1 ∧ rN m' i 1 < m' 0) ∧ (0 ≤ rN m' i 2 ∧ rN m' i 2 < 24) := by
  intro i hi
  have h5 := h.n
  rw [e5] at hi
  rw [e i 0 (by omega) (by decide), e i 1 (by omega) (by decide), e i 2 (by omega) (by decide), e0, e1]
  exact h.N hi
theorem ok_P (h : RowOK m) (e0 : m' 0 = m 0) (e1 : m' 1 = m 1) (e4 : m' 4 = m 4) (e : ∀ u s, u < 3 → s < 64 → m' (251 + 64 * u + s) = m (251 + 64 * u + s)) : ∀ u s : Nat, (u : Int) < m' 1 → (s : Int) < m' 0 → bd (m' (251 + 64 * u + s)) ∧ ∀ t, t < 32 → rPin m' u s t = true → (t : Int) < m' 4 := by
  intro u s hu hs
  have h1 := h.u
  have h0 := h.s
  rw [e1] at hu
  rw [e0] at hs
  unfold rPin
  rw [e u s (by omega) (by omega), e4]
  exact h.P hu hs
end OKS
/-- the sets of a tune in place of those that there are -/
def rSetP (m : Row) (u : Nat) (g : Nat → Int) : Row := fun j => if 251 + 64 * u ≤ j ∧ (j : Int) < 251 + 64 * u + m 0 then g (j - (251 + 64 * u)) else m j
section RSP
variable {m : Row} {u : Nat} {g : Nat → Int}
theorem rSetP_lo {j : Nat} (h : j < 251) : rSetP m u g j = m j := by unfold rSetP; rw [if_neg (by omega)]
theorem rSetP_hi {j : Nat} (hm : RowOK m) (hu : u < 3) (h : 443 ≤ j) : rSetP m u g j = m j := by
  have := hm.s
  unfold rSetP
  rw [if_neg (by omega)]
theorem rSetP_same {s : Nat} (hs : (s : Int) < m 0) : rSetP m u g (251 + 64 * u + s) = g s := by
  unfold rSetP
  rw [if_pos (by omega), show 251 + 64 * u + s - (251 + 64 * u) = s from by omega]
theorem rSetP_other {v s : Nat} (hm : RowOK m) (hv : v ≠ u) (hs : s < 64) : rSetP m u g (251 + 64 * v + s) = m (251 + 64 * v + s) := by
  have := hm.s
  unfold rSetP
  rw [if_neg (by omega)]
theorem rSetP_ok (h : RowOK m) (hg : ∀ s : Nat, (s : Int) < m 0 → bd (g s) ∧ ∀ t, t < 32 → tI (g s) t = true → (t : Int) < m 4) : RowOK (rSetP m u g) := by
  unfold RowOK
  have l : ∀ j, j < 251 → rSetP m u g j = m j := fun j hj => rSetP_lo hj
  rw [l 0 (by decide), l 1 (by decide), l 2 (by decide), l 3 (by decide), l 4 (by decide), l 5 (by decide), l 6 (by decide), l 7 (by decide), l 8 (by decide), l 9 (by decide), l 10 (by decide)]
  refine ⟨h.s, h.u, h.g, h.v, h.t, h.n, h.pu, h.ps, h.pt, h.pp, h.pb, ?_, ?_, fun v s hv hs => ?_⟩
  · have := ok_T (m' := rSetP m u g) h (l 4 (by decide)) (l 8 (by decide)) (l 9 (by decide)) (fun t k _ _ => l _ (by omega))
    rw [l 4 (by decide), l 8 (by decide), l 9 (by decide)] at this
    exact this
  · have := ok_N (m' := rSetP m u g) h (l 0 (by decide)) (l 1 (by decide)) (l 5 (by decide)) (fun t k _ _ => l _ (by omega))
    rw [l 0 (by decide), l 1 (by decide), l 5 (by decide)] at this
    exact this
  · have h0 := h.s
    unfold rPin
    by_cases e : v = u
    · subst e
      rw [rSetP_same hs]
      exact hg s hs
    · rw [rSetP_other h e (by omega)]
      exact h.P hv hs
end RSP
theorem BR.setP {w w' : PW} {b u : Nat} {m : Row} {g : Nat → Int} (hB : BR w b m) (hu : (u : Int) < m 1) (hk : ∀ c, c ≠ b + 3 → w'.2.2 c = w.2.2 c) (hg : ∀ s : Nat, (s : Int) < m 0 → bd (g s) ∧ ∀ t, t < 32 → tI (g s) t = true → (t : Int) < m 4) (hP : ∀ j s, j < 36 → s < 64 → tL (gL w' (b + 3) j) s = if j % (m 1).toNat = u ∧ j < (m 1).toNat * (m 4).toNat then (decide (s < (m 0).toNat) && tI (g s) (j / (m 1).toNat)) else tL (gL w (b + 3) j) s) : BR w' b (rSetP m u g) := by
  have h1 := hB.ok.u
  have h0 := hB.ok.s
  have h4 := hB.ok.t
  have vv : ∀ a k, a ≠ b + 3 → gI w' a k = gI w a k := fun a k ha => gI_cell (hk a ha) k
  have l : ∀ j, j < 251 → rSetP m u g j = m j := fun j hj => rSetP_lo hj
  refine ⟨hB.bx, rSetP_ok hB.ok hg, ?_, fun t ht => ?_, ?_, fun i hi => ?_, ?_, fun k hk hk2 => ?_, fun j s hj hs => ?_⟩
  · rw [l 0 (by decide), l 1 (by decide), l 2 (by decide), l 3 (by decide), l 4 (by decide), vv _ _ (by omega), vv _ _ (by omega), vv _ _ (by omega), vv _ _ (by omega), vv _ _ (by omega)]
    exact ⟨hB.s, hB.u, hB.g, hB.v, hB.t⟩
  · rw [l 4 (by decide)] at ht
    have e : ∀ k, k < 5 → rT (rSetP m u g) t k = rT m t k := fun k _ => l _ (by omega)
    rw [e 0 (by decide), e 1 (by decide), e 2 (by decide), e 3 (by decide), e 4 (by decide), vv _ _ (by omega), vv _ _ (by omega), vv _ _ (by omega), vv _ _ (by omega), vv _ _ (by omega)]
    exact hB.T ht
  · rw [l 5 (by decide), vv _ _ (by omega)]
    exact hB.n
  · rw [l 5 (by decide)] at hi
    have h5 := hB.ok.n
    have e : ∀ k, k < 3 → rN (rSetP m u g) i k = rN m i k := fun k _ => l _ (by omega)
    rw [e 0 (by decide), e 1 (by decide), e 2 (by decide), vv _ _ (by omega), vv _ _ (by omega), vv _ _ (by omega)]
    exact hB.N hi
  · rw [l 6 (by decide), l 7 (by decide), l 8 (by decide), l 9 (by decide), l 10 (by decide), vv _ _ (by omega), vv _ _ (by omega), vv _ _ (by omega), vv _ _ (by omega), vv _ _ (by omega)]
    exact ⟨hB.pu, hB.ps, hB.pt, hB.pp, hB.pb⟩
  · rw [l 9 (by decide)] at hk2
    rw [vv _ _ (by omega), rSetP_hi hB.ok (by omega) (by omega)]
    exact hB.M hk hk2
  · rw [hP j s hj hs, hB.P hj hs]
    unfold rTr
    rw [l 0 (by decide), l 1 (by decide), l 4 (by decide)]
    by_cases q1 : j < (m 1).toNat * (m 4).toNat
    · by_cases q2 : s < (m 0).toNat
      · by_cases q3 : j % (m 1).toNat = u
        · rw [if_pos ⟨q3, q1⟩, decide_eq_true q1, decide_eq_true q2, q3]
          unfold rPin
          rw [rSetP_same (by omega)]
          rfl
        · rw [if_neg (fun z => q3 z.1)]
          unfold rPin
          rw [rSetP_other hB.ok q3 hs]
      · rw [decide_eq_false q2, Bool.false_and, Bool.false_and, Bool.false_and]
        split
        · rw [Bool.and_false]
        · rfl
    · rw [if_neg (fun z => q1 z.2), decide_eq_false q1, Bool.false_and, Bool.false_and]
/-- loops over the tracks of a tune -/
def TrI (F : Int64 → Int64) (w w' : PW) (b u U i : Nat) : Prop := Sh w' ∧ (∀ c, c ≠ b + 3 → w'.2.2 c = w.2.2 c) ∧ ∀ j, j < 36 → gL w' (b + 3) j = if j % U = u ∧ j / U < i then F (gL w (b + 3) j) else gL w (b + 3) j
theorem TrI.z {F : Int64 → Int64} {w : PW} {b u U : Nat} (hs : Sh w) : TrI F w w b u U 0 := ⟨hs, fun _ _ => rfl, fun j _ => by rw [if_neg (fun z => absurd z.2 (Nat.not_lt_zero _))]⟩
theorem TrI.br {F : Int64 → Int64} {w w' : PW} {b u U i : Nat} {m : Row} (hB : BR w b m) (h : TrI F w w' b u U i) : gI w' b 0 = m 0 ∧ gI w' b 1 = m 1 ∧ gI w' b 4 = m 4 := by
  have a0 := bx_lt hB.bx
  rw [gI_cell (h.2.1 b (by omega)), gI_cell (h.2.1 b (by omega)), gI_cell (h.2.1 b (by omega))]
  exact ⟨hB.s, hB.u, hB.t⟩
theorem TrI.get {F : Int64 → Int64} {w w' : PW} {b u i : Nat} {m : Row} (hB : BR w b m) (hu : (u : Int) < m 1) (hi : i < 12) (h : TrI F w w' b u (m 1).toNat i) : lP w' b (m 1 * (i : Int) + (u : Int)) = gL w (b + 3) ((m 1).toNat * i + u) := by
  have h1 := hB.ok.u
  have hlt := trk_lt hB.ok hu hi
  rw [hB.trk hu]
  unfold lP
  rw [if_pos ⟨by omega, by omega⟩, Int.toNat_natCast, h.2.2 _ hlt.1, if_neg]
  rw [Nat.mul_add_div (by omega), Nat.div_eq_of_lt (by omega : u < (m 1).toNat)]
  omega
theorem TrI.s {F : Int64 → Int64} {w w' : PW} {b u i : Nat} {m : Row} (hB : BR w b m) (hu : (u : Int) < m 1) (hi : i < 12) (h : TrI F w w' b u (m 1).toNat i) : TrI F w (sL w' (b + 3) (m 1 * (i : Int) + (u : Int)).toNat (F (gL w (b + 3) ((m 1).toNat * i + u)))) b u (m 1).toNat (i + 1) := by
  have h1 := hB.ok.u
  have a0 := bx_lt hB.bx
  have hlt := trk_lt hB.ok hu hi
  have huU : u < (m 1).toNat := by omega
  rw [hB.trk hu, Int.toNat_natCast]
  obtain ⟨s2, g2, -, k2⟩ := stL rfl h.1 (by omega) (tb3 hB.bx) (a := b + 3) (k := (m 1).toNat * i + u) (z := F (gL w (b + 3) ((m 1).toNat * i + u)))
  refine ⟨s2, fun c hc => by rw [k2 c hc, h.2.1 c hc], fun j hj => ?_⟩
  rw [g2]
  by_cases e : j = (m 1).toNat * i + u
  · subst e
    rw [if_pos ⟨rfl, rfl⟩, if_pos]
    rw [Nat.mul_add_mod, Nat.mod_eq_of_lt huU, Nat.mul_add_div (by omega), Nat.div_eq_of_lt huU]
    exact ⟨rfl, by omega⟩
  · rw [if_neg (fun z => e z.2), h.2.2 j hj]
    have e2 : j % (m 1).toNat = u ∧ j / (m 1).toNat < i + 1 ↔ j % (m 1).toNat = u ∧ j / (m 1).toNat < i := by
      refine ⟨fun z => ⟨z.1, ?_⟩, fun z => ⟨z.1, by omega⟩⟩
      rcases Nat.lt_or_ge (j / (m 1).toNat) i with q | q
      · exact q
      · exfalso
        have q2 : j / (m 1).toNat = i := by omega
        have := Nat.div_add_mod j (m 1).toNat
        rw [q2, z.1] at this
        omega
    by_cases q : j % (m 1).toNat = u ∧ j / (m 1).toNat < i
    · rw [if_pos q, if_pos (e2.mpr q)]
    · rw [if_neg q, if_neg (fun z => q (e2.mp z))]
theorem TrI.fin {F : Int64 → Int64} {w w' : PW} {b u : Nat} {m : Row} {g : Nat → Int} (hB : BR w b m) (hu : (u : Int) < m 1) (h : TrI F w w' b u (m 1).toNat (m 4).toNat) (hg : ∀ s : Nat, (s : Int) < m 0 → bd (g s) ∧ ∀ t, t < 32 → tI (g s) t = true → (t : Int) < m 4) (hF : ∀ t s : Nat, (t : Int) < m 4 → s < 64 → tL (F (gL w (b + 3) ((m 1).toNat * t + u))) s = (decide (s < (m 0).toNat) && tI (g s) t)) : BR w' b (rSetP m u g) := by
  have h1 := hB.ok.u
  refine hB.setP hu h.2.1 hg (fun j s hj hs => ?_)
  rw [h.2.2 j hj]
  have e : j / (m 1).toNat < (m 4).toNat ↔ j < (m 1).toNat * (m 4).toNat := by
    rw [Nat.div_lt_iff_lt_mul (by omega), Nat.mul_comm]
  by_cases q : j % (m 1).toNat = u ∧ j < (m 1).toNat * (m 4).toNat
  · rw [if_pos q, if_pos ⟨q.1, e.mpr q.2⟩]
    have q3 := e.mpr q.2
    have h4 := hB.ok.t
    have := hF (j / (m 1).toNat) s (by omega) hs
    have e3 := Nat.div_add_mod j (m 1).toNat
    rw [q.1] at e3
    rw [e3] at this
    exact this
  · rw [if_neg q, if_neg (fun z => q ⟨z.1, e.mp z.2⟩)]
/-! 143: PinBarrel$Box.movePins(II)V -/
theorem b143 : mB 143 = cX0_movePins := rfl
theorem r143 : mR 143 = none := rfl
theorem p143 (a b : Nat) : phi 143 a ≤ phi 143 b := Nat.le_refl 0
theorem d143_0 : decode cX0_movePins 0 = .ok (.iconst 0, 1) := by decide +kernel
theorem d143_1 : decode cX0_movePins 1 = .ok (.istore_n 3, 1) := by decide +kernel
theorem d143_2 : decode cX0_movePins 2 = .ok (.iload_n 3, 1) := by decide +kernel
theorem d143_3 : decode cX0_movePins 3 = .ok (.aload_n 0, 1) := by decide +kernel
theorem d143_4 : decode cX0_movePins 4 = .ok (.getfield 24, 3) := by decide +kernel
theorem d143_7 : decode cX0_movePins 7 = .ok (.if_icmp .ge 37, 3) := by decide +kernel
theorem d143_10 : decode cX0_movePins 10 = .ok (.aload_n 0, 1) := by decide +kernel
theorem d143_11 : decode cX0_movePins 11 = .ok (.iload_n 1, 1) := by decide +kernel
theorem d143_12 : decode cX0_movePins 12 = .ok (.iload_n 3, 1) := by decide +kernel
theorem d143_13 : decode cX0_movePins 13 = .ok (.invokevirtual 81, 3) := by decide +kernel
theorem d143_16 : decode cX0_movePins 16 = .ok (.istore 4, 2) := by decide +kernel
theorem d143_18 : decode cX0_movePins 18 = .ok (.aload_n 0, 1) := by decide +kernel
theorem d143_19 : decode cX0_movePins 19 = .ok (.iload 4, 2) := by decide +kernel
theorem d143_21 : decode cX0_movePins 21 = .ok (.aload_n 0, 1) := by decide +kernel
theorem d143_22 : decode cX0_movePins 22 = .ok (.iload 4, 2) := by decide +kernel
theorem d143_24 : decode cX0_movePins 24 = .ok (.invokevirtual 85, 3) := by decide +kernel
theorem d143_27 : decode cX0_movePins 27 = .ok (.iload_n 2, 1) := by decide +kernel
theorem d143_28 : decode cX0_movePins 28 = .ok (.aload_n 0, 1) := by decide +kernel
theorem d143_29 : decode cX0_movePins 29 = .ok (.getfield 9, 3) := by decide +kernel
theorem d143_32 : decode cX0_movePins 32 = .ok (.invokestatic 115, 3) := by decide +kernel
theorem d143_35 : decode cX0_movePins 35 = .ok (.invokevirtual 97, 3) := by decide +kernel
theorem d143_38 : decode cX0_movePins 38 = .ok (.iinc 3 1, 3) := by decide +kernel
theorem d143_41 : decode cX0_movePins 41 = .ok (.goto (-39), 3) := by decide +kernel
theorem d143_44 : decode cX0_movePins 44 = .ok (.return_, 1) := by decide +kernel
theorem v143_0 {w : PW} {Q : PO → PW → Prop} {b : Nat} {x1 : Int} {x2 : Int} (hs : Sh w) (hb : bx b) (hx1 : bd x1) (hx2 : bd x2) (h : pX 143 2 [some (.ref b), some (iv x1), some (iv x2), some (iv 0), none] [] w Q) : pX 143 0 [some (.ref b), some (iv x1), some (iv x2), none, none] [] w Q :=
  w_f b143 d143_0 rfl rfl rfl <| w_f b143 d143_1 rfl rfl rfl <| h
theorem e143 {w : PW} {Q : PO → PW → Prop} {b : Nat} {x1 : Int} {x2 : Int} (hs : Sh w) (hb : bx b) (hx1 : bd x1) (hx2 : bd x2) (h : pX 143 2 [some (.ref b), some (iv x1), some (iv x2), some (iv 0), none] [] w Q) : pC 143 [.ref b, iv x1, iv x2] w Q :=
  (pC_in (Nat.le_of_ble_eq_true rfl) rfl Q).mpr (v143_0 hs hb hx1 hx2 h)
theorem v143_2 {w : PW} {Q : PO → PW → Prop} {b : Nat} {x1 : Int} {x2 : Int} {x3 : Int} {o4 : Option Value} (hs : Sh w) (hb : bx b) (hx1 : bd x1) (hx2 : bd x2) (hx3 : bd x3) (ho4 : pc2 o4 = false) (h : ((gI w b 4) ≤ x3 → Q (.inl none) w) ∧ (x3 < (gI w b 4) → (bd ((gI w b 1) * x3 + x1)) ∧ (bd ((gI w b 0) - x2)) ∧ (bd ((gI w b 1) * x3 + x1)) ∧ (0 ≤ ((gI w b 1) * x3 + x1) ∧ ((gI w b 1) * x3 + x1) < 36) ∧ ∀ w2 : PW, w2 = sL w (b + 3) (((gI w b 1) * x3 + x1)).toNat (lMov (lP w b ((gI w b 1) * x3 + x1)) x2 (gI w b 0)) → pX 143 2 [some (.ref b), some (iv x1), some (iv x2), some (iv (x3 + 1)), some (iv ((gI w b 1) * x3 + x1))] [] w2 Q)) : pX 143 2 [some (.ref b), some (iv x1), some (iv x2), some (iv x3), o4] [] w Q :=
  w_f b143 d143_2 rfl rfl rfl <| w_f b143 d143_3 rfl rfl rfl <| w_gi b143 d143_4 rfl rfl hs (bx00 hb) (tb0 hb) rfl <| w_icge b143 d143_7 rfl rfl (p143 _ _) hx3 (bd_gI _ _ _) (fun c1 => w_rv b143 d143_44 r143 (h.1 c1)) (fun c1 => w_f b143 d143_10 rfl rfl rfl <| w_f b143 d143_11 rfl rfl rfl <| w_f b143 d143_12 rfl rfl rfl <| w_cc b143 d143_13 rfl (pcl_v (n := 2) rfl rfl rfl (by decide +kernel) (sh_isOb hs (bx00 hb) (tb0 hb)) rfl rfl) rfl <| c28 hs hb hx1 hx3 <| w_f b143 d143_16 rfl rfl rfl <| w_f b143 d143_18 rfl rfl rfl <| w_f b143 d143_19 rfl rfl rfl <| w_f b143 d143_21 rfl rfl rfl <| w_f b143 d143_22 rfl rfl rfl <| w_cc b143 d143_24 rfl (pcl_v (n := 1) rfl rfl rfl (by decide +kernel) (sh_isOb hs (bx00 hb) (tb0 hb)) rfl rfl) rfl <| c29 hs hb (h.2 c1).1 <| w_f b143 d143_27 rfl rfl rfl <| w_f b143 d143_28 rfl rfl rfl <| w_gi b143 d143_29 rfl rfl hs (bx00 hb) (tb0 hb) rfl <| w_cc b143 d143_32 rfl (pcl_s1 (n := 3) rfl rfl rfl (by decide +kernel) rfl rfl) rfl <| c61 hs hx2 (bd_gI _ _ _) (h.2 c1).2.1 <| w_cc b143 d143_35 rfl (pcl_v (n := 2) rfl rfl rfl (by decide +kernel) (sh_isOb hs (bx00 hb) (tb0 hb)) rfl rfl) rfl <| c30 hs hb (h.2 c1).2.2.1 (h.2 c1).2.2.2.1 <| w_f b143 d143_38 rfl (pf_iinc rfl rfl) rfl <| w_j b143 d143_41 rfl (p143 _ _) <| ((h.2 c1).2.2.2.2 _ rfl))
/-! 191: PinBarrel$Box.mirrorPins(I)V -/
theorem b191 : mB 191 = cX0_mirrorPins := rfl
theorem r191 : mR 191 = none := rfl
theorem p191 (a b : Nat) : phi 191 a ≤ phi 191 b := Nat.le_refl 0
theorem d191_0 : decode cX0_mirrorPins 0 = .ok (.iconst 0, 1) := by decide +kernel
theorem d191_1 : decode cX0_mirrorPins 1 = .ok (.istore_n 2, 1) := by decide +kernel
theorem d191_2 : decode cX0_mirrorPins 2 = .ok (.iload_n 2, 1) := by decide +kernel
theorem d191_3 : decode cX0_mirrorPins 3 = .ok (.aload_n 0, 1) := by decide +kernel
theorem d191_4 : decode cX0_mirrorPins 4 = .ok (.getfield 24, 3) := by decide +kernel
theorem d191_7 : decode cX0_mirrorPins 7 = .ok (.if_icmp .ge 33, 3) := by decide +kernel
theorem d191_10 : decode cX0_mirrorPins 10 = .ok (.aload_n 0, 1) := by decide +kernel
theorem d191_11 : decode cX0_mirrorPins 11 = .ok (.iload_n 1, 1) := by decide +kernel
theorem d191_12 : decode cX0_mirrorPins 12 = .ok (.iload_n 2, 1) := by decide +kernel
theorem d191_13 : decode cX0_mirrorPins 13 = .ok (.invokevirtual 81, 3) := by decide +kernel
theorem d191_16 : decode cX0_mirrorPins 16 = .ok (.istore_n 3, 1) := by decide +kernel
theorem d191_17 : decode cX0_mirrorPins 17 = .ok (.aload_n 0, 1) := by decide +kernel
theorem d191_18 : decode cX0_mirrorPins 18 = .ok (.iload_n 3, 1) := by decide +kernel
theorem d191_19 : decode cX0_mirrorPins 19 = .ok (.aload_n 0, 1) := by decide +kernel
theorem d191_20 : decode cX0_mirrorPins 20 = .ok (.iload_n 3, 1) := by decide +kernel
theorem d191_21 : decode cX0_mirrorPins 21 = .ok (.invokevirtual 85, 3) := by decide +kernel
theorem d191_24 : decode cX0_mirrorPins 24 = .ok (.aload_n 0, 1) := by decide +kernel
theorem d191_25 : decode cX0_mirrorPins 25 = .ok (.getfield 9, 3) := by decide +kernel
theorem d191_28 : decode cX0_mirrorPins 28 = .ok (.invokestatic 119, 3) := by decide +kernel
theorem d191_31 : decode cX0_mirrorPins 31 = .ok (.invokevirtual 97, 3) := by decide +kernel
theorem d191_34 : decode cX0_mirrorPins 34 = .ok (.iinc 2 1, 3) := by decide +kernel
theorem d191_37 : decode cX0_mirrorPins 37 = .ok (.goto (-35), 3) := by decide +kernel
theorem d191_40 : decode cX0_mirrorPins 40 = .ok (.return_, 1) := by decide +kernel
theorem v191_0 {w : PW} {Q : PO → PW → Prop} {b : Nat} {x1 : Int} (hs : Sh w) (hb : bx b) (hx1 : bd x1) (h : pX 191 2 [some (.ref b), some (iv x1), some (iv 0), none] [] w Q) : pX 191 0 [some (.ref b), some (iv x1), none, none] [] w Q :=
  w_f b191 d191_0 rfl rfl rfl <| w_f b191 d191_1 rfl rfl rfl <| h
theorem e191 {w : PW} {Q : PO → PW → Prop} {b : Nat} {x1 : Int} (hs : Sh w) (hb : bx b) (hx1 : bd x1) (h : pX 191 2 [some (.ref b), some (iv x1), some (iv 0), none] [] w Q) : pC 191 [.ref b, iv x1] w Q :=
  (pC_in (Nat.le_of_ble_eq_true rfl) rfl Q).mpr (v191_0 hs hb hx1 h)
theorem v191_2 {w : PW} {Q : PO → PW → Prop} {b : Nat} {x1 : Int} {x2 : Int} {o3 : Option Value} (hs : Sh w) (hb : bx b) (hx1 : bd x1) (hx2 : bd x2) (ho3 : pc2 o3 = false) (h : ((gI w b 4) ≤ x2 → Q (.inl none) w) ∧ (x2 < (gI w b 4) → (bd ((gI w b 1) * x2 + x1)) ∧ (0 ≤ (gI w b 0) ∧ (gI w b 0) ≤ 64) ∧ (bd ((gI w b 1) * x2 + x1)) ∧ (0 ≤ ((gI w b 1) * x2 + x1) ∧ ((gI w b 1) * x2 + x1) < 36) ∧ ∀ w2 : PW, w2 = sL w (b + 3) (((gI w b 1) * x2 + x1)).toNat (lMir (lP w b ((gI w b 1) * x2 + x1)) (gI w b 0)) → pX 191 2 [some (.ref b), some (iv x1), some (iv (x2 + 1)), some (iv ((gI w b 1) * x2 + x1))] [] w2 Q)) : pX 191 2 [some (.ref b), some (iv x1), some (iv x2), o3] [] w Q :=
  w_f b191 d191_2 rfl rfl rfl <| w_f b191 d191_3 rfl rfl rfl <| w_gi b191 d191_4 rfl rfl hs (bx00 hb) (tb0 hb) rfl <| w_icge b191 d191_7 rfl rfl (p191 _ _) hx2 (bd_gI _ _ _) (fun c1 => w_rv b191 d191_40 r191 (h.1 c1)) (fun c1 => w_f b191 d191_10 rfl rfl rfl <| w_f b191 d191_11 rfl rfl rfl <| w_f b191 d191_12 rfl rfl rfl <| w_cc b191 d191_13 rfl (pcl_v (n := 2) rfl rfl rfl (by decide +kernel) (sh_isOb hs (bx00 hb) (tb0 hb)) rfl rfl) rfl <| c28 hs hb hx1 hx2 <| w_f b191 d191_16 rfl rfl rfl <| w_f b191 d191_17 rfl rfl rfl <| w_f b191 d191_18 rfl rfl rfl <| w_f b191 d191_19 rfl rfl rfl <| w_f b191 d191_20 rfl rfl rfl <| w_cc b191 d191_21 rfl (pcl_v (n := 1) rfl rfl rfl (by decide +kernel) (sh_isOb hs (bx00 hb) (tb0 hb)) rfl rfl) rfl <| c29 hs hb (h.2 c1).1 <| w_f b191 d191_24 rfl rfl rfl <| w_gi b191 d191_25 rfl rfl hs (bx00 hb) (tb0 hb) rfl <| w_cc b191 d191_28 rfl (pcl_s1 (n := 2) rfl rfl rfl (by decide +kernel) rfl rfl) rfl <| c190 hs (bd_gI _ _ _) (h.2 c1).2.1 <| w_cc b191 d191_31 rfl (pcl_v (n := 2) rfl rfl rfl (by decide +kernel) (sh_isOb hs (bx00 hb) (tb0 hb)) rfl rfl) rfl <| c30 hs hb (h.2 c1).2.2.1 (h.2 c1).2.2.2.1 <| w_f b191 d191_34 rfl (pf_iinc rfl rfl) rfl <| w_j b191 d191_37 rfl (p191 _ _) <| ((h.2 c1).2.2.2.2 _ rfl))
theorem l143_2 {w : PW} {Q : PO → PW → Prop} {b u kk : Nat} {m : Row} (hs : Sh w) (hB : BR w b m) (hu : (u : Int) < m 1) (hk : (kk : Int) < m 0) (h : ∀ w2, TrI (fun X => lMov X (kk : Nat) (m 0)) w w2 b u (m 1).toNat (m 4).toNat → Q (.inl none) w2) : ∀ k i : Nat, i + k = (m 4).toNat → ∀ w', TrI (fun X => lMov X (kk : Nat) (m 0)) w w' b u (m 1).toNat i → ∀ o4 : Option Value, pc2 o4 = false → pX 143 2 [some (.ref b), some (iv (u : Nat)), some (iv (kk : Nat)), some (iv (i : Nat)), o4] [] w' Q := by
  have h4 := hB.ok.t
  have h1 := hB.ok.u
  have h0 := hB.ok.s
  intro k
  induction k with
  | zero =>
    intro i hi w' hI o4 ho
    obtain ⟨b0, b1, b4⟩ := hI.br hB
    refine v143_2 hI.1 hB.bx (bdk (by omega)) (bdk (by omega)) (bdk (by omega)) ho ?_
    rw [b4]
    refine ⟨fun _ => ?_, fun q => by omega⟩
    rw [show i = (m 4).toNat from by omega] at hI
    exact h w' hI
  | succ k ih =>
    intro i hi w' hI o4 ho
    obtain ⟨b0, b1, b4⟩ := hI.br hB
    have hx := hI.get hB hu (show i < 12 from by omega)
    have htb := hB.lPb hu (show i < 12 from by omega)
    refine v143_2 hI.1 hB.bx (bdk (by omega)) (bdk (by omega)) (bdk (by omega)) ho ?_
    rw [b4, b1, b0, hx]
    refine ⟨fun q => by omega, fun _ => ⟨htb.1, ⟨by omega, by omega⟩, htb.1, htb.2, fun w2 e2 => ?_⟩⟩
    have hN := hI.s hB hu (show i < 12 from by omega)
    rw [← e2] at hN
    exact ih (i + 1) (by omega) w2 hN (some (iv (m 1 * (i : Int) + (u : Int)))) rfl
theorem l191_2 {w : PW} {Q : PO → PW → Prop} {b u : Nat} {m : Row} (hs : Sh w) (hB : BR w b m) (hu : (u : Int) < m 1) (h : ∀ w2, TrI (fun X => lMir X (m 0)) w w2 b u (m 1).toNat (m 4).toNat → Q (.inl none) w2) : ∀ k i : Nat, i + k = (m 4).toNat → ∀ w', TrI (fun X => lMir X (m 0)) w w' b u (m 1).toNat i → ∀ o3 : Option Value, pc2 o3 = false → pX 191 2 [some (.ref b), some (iv (u : Nat)), some (iv (i : Nat)), o3] [] w' Q := by
  have h4 := hB.ok.t
  have h1 := hB.ok.u
  have h0 := hB.ok.s
  intro k
  induction k with
  | zero =>
    intro i hi w' hI o3 ho
    obtain ⟨b0, b1, b4⟩ := hI.br hB
    refine v191_2 hI.1 hB.bx (bdk (by omega)) (bdk (by omega)) ho ?_
    rw [b4]
    refine ⟨fun _ => ?_, fun q => by omega⟩
    rw [show i = (m 4).toNat from by omega] at hI
    exact h w' hI
  | succ k ih =>
    intro i hi w' hI o3 ho
    obtain ⟨b0, b1, b4⟩ := hI.br hB
    have hx := hI.get hB hu (show i < 12 from by omega)
    have htb := hB.lPb hu (show i < 12 from by omega)
    refine v191_2 hI.1 hB.bx (bdk (by omega)) (bdk (by omega)) ho ?_
    rw [b4, b1, b0, hx]
    refine ⟨fun q => by omega, fun _ => ⟨htb.1, ⟨by omega, by omega⟩, htb.1, htb.2, fun w2 e2 => ?_⟩⟩
    have hN := hI.s hB hu (show i < 12 from by omega)
    rw [← e2] at hN
    exact ih (i + 1) (by omega) w2 hN (some (iv (m 1 * (i : Int) + (u : Int)))) rfl
def rMoveP (m : Row) (u k : Nat) : Row := rSetP m u (fun s => m (251 + 64 * u + wS (m 0).toNat s k))
def rMirP (m : Row) (u : Nat) : Row := rSetP m u (fun s => m (251 + 64 * u + ((m 0).toNat - 1 - s)))
def rClrP (m : Row) (u : Nat) : Row := rSetP m u (fun _ => 0)
theorem BR.trbit {w : PW} {b u t s : Nat} {m : Row} (h : BR w b m) (hu : (u : Int) < m 1) (ht : (t : Int) < m 4) (hs : s < 64) : tL (gL w (b + 3) ((m 1).toNat * t + u)) s = (decide ((s : Int) < m 0) && rPin m u s t) := by
  have h4 := h.ok.t
  have hlt := trk_lt h.ok hu (show t < 12 by omega)
  rw [h.P hlt.1 hs, rTr_ut h.ok hu, decide_eq_true ht]
  rfl
theorem c143 {w : PW} {Q : PO → PW → Prop} {b u k : Nat} {m : Row} (hs : Sh w) (hB : BR w b m) (hu : (u : Int) < m 1) (hk : (k : Int) < m 0) (h : ∀ w2, Sh w2 → BR w2 b (rMoveP m u k) → (∀ c, c ≠ b + 3 → w2.2.2 c = w.2.2 c) → Q (.inl none) w2) : pC 143 [.ref b, iv (u : Nat), iv (k : Nat)] w Q := by
  have h0 := hB.ok.s
  have h1 := hB.ok.u
  have hlt : ∀ s : Nat, (s : Int) < m 0 → ((wS (m 0).toNat s k : Nat) : Int) < m 0 := by
    intro s hs
    unfold wS
    split <;> omega
  refine e143 hs hB.bx (bdk (by omega)) (bdk (by omega)) (l143_2 hs hB hu hk (fun w2 hI => h w2 hI.1 ?_ hI.2.1) _ 0 (Nat.zero_add _) w (TrI.z hs) none rfl)
  refine hI.fin hB hu (fun s hs => hB.ok.P hu (hlt s hs)) (fun t s ht hs => ?_)
  have hX : ∀ z, (m 0).toNat ≤ z → tL (gL w (b + 3) ((m 1).toNat * t + u)) z = false := by
    intro z hz
    by_cases q : z < 64
    · rw [hB.trbit hu ht q, decide_eq_false (by omega), Bool.false_and]
    · exact tL_big (by omega)
  show tL (lMov _ (k : Nat) (m 0)) s = _
  rw [show m 0 = (((m 0).toNat : Nat) : Int) from by omega, lMov_bits (by omega) (by omega) hX]
  by_cases q : s < (m 0).toNat
  · have hq := hlt s (by omega)
    rw [hB.trbit hu ht (by omega), Int.toNat_natCast, decide_eq_true q, decide_eq_true hq]
    rfl
  · rw [Int.toNat_natCast, decide_eq_false q, Bool.false_and, Bool.false_and]
theorem lMirN_bits {X : Int64} {S : Nat} (hS : S ≤ 64) : ∀ n, n ≤ S → ∀ s, s < 64 → tL (lMirN X S n) s = (decide (s < S) && (decide (S - 1 - s < n) && tL X (S - 1 - s))) := by
  intro n
  induction n with
  | zero => intro _ s _; rw [show lMirN X S 0 = 0 from rfl, tL_0, decide_eq_false (p := S - 1 - s < 0) (by omega), Bool.false_and, Bool.and_false]
  | succ n ih =>
    intro hn s hs
    have ihs := ih (by omega) s hs
    by_cases q : tL X n = true
    · rw [show lMirN X S (n + 1) = lMirN X S n ||| lShl 1 ((S : Int) - 1 - n) from if_pos q, tL_or, ihs, tL_bit (by omega) hs]
      by_cases e : s = ((S : Int) - 1 - n).toNat
      · have e1 : S - 1 - s = n := by omega
        rw [decide_eq_true e, Bool.or_true, e1, q, decide_eq_true (p := s < S) (by omega), decide_eq_true (p := n < n + 1) (by omega)]; rfl
      · rw [decide_eq_false e, Bool.or_false]
        by_cases q2 : s < S
        · rw [show decide (S - 1 - s < n + 1) = decide (S - 1 - s < n) from decide_eq_decide.mpr ⟨by omega, by omega⟩]
        · rw [decide_eq_false q2, Bool.false_and, Bool.false_and]
    · rw [show lMirN X S (n + 1) = lMirN X S n from if_neg q, ihs]
      by_cases e : S - 1 - s = n
      · rw [e, Bool.eq_false_iff.mpr q]
        simp only [Bool.and_false]
      · rw [show decide (S - 1 - s < n + 1) = decide (S - 1 - s < n) from decide_eq_decide.mpr ⟨by omega, by omega⟩]
theorem c191 {w : PW} {Q : PO → PW → Prop} {b u : Nat} {m : Row} (hs : Sh w) (hB : BR w b m) (hu : (u : Int) < m 1) (h : ∀ w2, Sh w2 → BR w2 b (rMirP m u) → (∀ c, c ≠ b + 3 → w2.2.2 c = w.2.2 c) → Q (.inl none) w2) : pC 191 [.ref b, iv (u : Nat)] w Q := by
  have h0 := hB.ok.s
  have h1 := hB.ok.u
  refine e191 hs hB.bx (bdk (by omega)) (l191_2 hs hB hu (fun w2 hI => h w2 hI.1 ?_ hI.2.1) _ 0 (Nat.zero_add _) w (TrI.z hs) none rfl)
  refine hI.fin hB hu (fun s hs => hB.ok.P hu (by omega)) (fun t s ht hs => ?_)
  show tL (lMirN _ (m 0) (m 0).toNat) s = _
  rw [show m 0 = (((m 0).toNat : Nat) : Int) from by omega, Int.toNat_natCast, lMirN_bits (by omega) _ (Nat.le_refl _) s hs]
  by_cases q : s < (m 0).toNat
  · rw [hB.trbit hu ht (by omega), decide_eq_true q, decide_eq_true (p := (m 0).toNat - 1 - s < (m 0).toNat) (by omega), decide_eq_true (p := (((m 0).toNat - 1 - s : Nat) : Int) < m 0) (by omega)]
    rfl
  · rw [decide_eq_false q, Bool.false_and, Bool.false_and]

