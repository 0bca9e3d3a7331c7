/-! CHANGES of notes, teeth, whole boxes: the class -/
def rSetN (m : Row) (u : Int) (c : Nat) (f : Int → Int) : Row := fun j => if (71 ≤ j ∧ (j : Int) < 71 + 3 * m 5) ∧ (j - 71) % 3 = c ∧ m (71 + 3 * ((j - 71) / 3)) = u then f (m j) else m j
section RSN
variable {m : Row} {u : Int} {c : Nat} {f : Int → Int}
theorem rSetN_lo {j : Nat} (h : j < 71) : rSetN m u c f j = m j := by unfold rSetN; rw [if_neg (by omega)]
theorem rSetN_hi {j : Nat} (hm : RowOK m) (h : 251 ≤ j) : rSetN m u c f j = m j := by
  have := hm.n
  unfold rSetN
  rw [if_neg (by omega)]
theorem rSetN_N {i k : Nat} (hi : (i : Int) < m 5) (hk : k < 3) : rN (rSetN m u c f) i k = if k = c ∧ rN m i 0 = u then f (rN m i k) else rN m i k := by
  show rSetN m u c f (71 + 3 * i + k) = _
  unfold rSetN
  have e1 : (71 + 3 * i + k - 71) % 3 = k := by omega
  have e2 : (71 + 3 * i + k - 71) / 3 = i := by omega
  rw [e1, e2]
  by_cases q : k = c ∧ rN m i 0 = u
  · rw [if_pos q, if_pos ⟨by omega, q⟩]; rfl
  · rw [if_neg q, if_neg (fun z => q z.2)]; rfl
theorem rSetN_ok (h : RowOK m) (hc : c = 1 ∨ c = 2) (hf : ∀ i : Nat, (i : Int) < m 5 → rN m i 0 = u → 0 ≤ f (rN m i c) ∧ f (rN m i c) < if c = 1 then m 0 else 24) : RowOK (rSetN m u c f) := by
  have l : ∀ j, j < 71 → rSetN m u c f j = m j := fun j hj => rSetN_lo hj
  unfold RowOK
  rw [l 0 (by decide), l 1 (by decide), l 2 (by decide), l 3 (by decide), l 4 (by decide), l 5 (by decide), l 6 (by decide), l 7 (by decide), l 8 (by decide), l 9 (by decide), l 10 (by decide)]
  refine ⟨h.s, h.u, h.g, h.v, h.t, h.n, h.pu, h.ps, h.pt, h.pp, h.pb, ?_, fun i hi => ?_, ?_⟩
  · have := ok_T (m' := rSetN m u c f) h (l 4 (by decide)) (l 8 (by decide)) (l 9 (by decide)) (fun t k _ _ => l _ (by omega))
    rw [l 4 (by decide), l 8 (by decide), l 9 (by decide)] at this
    exact this
  · have h1 := h.N hi
    have h2 := hf i hi
    rw [rSetN_N hi (by decide), rSetN_N hi (by decide), rSetN_N hi (by decide), if_neg (by omega)]
    rcases hc with rfl | rfl
    · rw [if_neg (fun z => absurd z.1 (by decide) : ¬ (2 = 1 ∧ rN m i 0 = u))]
      refine ⟨h1.1, ?_, h1.2.2⟩
      by_cases q : rN m i 0 = u
      · rw [if_pos ⟨rfl, q⟩]
        have := h2 q
        rw [if_pos rfl] at this
        exact this
      · rw [if_neg (fun z => q z.2)]
        exact h1.2.1
    · rw [if_neg (fun z => absurd z.1 (by decide) : ¬ (1 = 2 ∧ rN m i 0 = u))]
      refine ⟨h1.1, h1.2.1, ?_⟩
      by_cases q : rN m i 0 = u
      · rw [if_pos ⟨rfl, q⟩]
        have := h2 q
        rw [if_neg (by decide)] at this
        exact this
      · rw [if_neg (fun z => q z.2)]
        exact h1.2.2
  · have := ok_P (m' := rSetN m u c f) h (l 0 (by decide)) (l 1 (by decide)) (l 4 (by decide)) (fun v s hv hs => rSetN_hi h (by omega))
    rw [l 0 (by decide), l 1 (by decide), l 4 (by decide)] at this
    exact this
end RSN
theorem BR.setN {w w' : PW} {b c : Nat} {m : Row} {u : Int} {f : Int → Int} (hB : BR w b m) (hc : c = 1 ∨ c = 2) (hk : ∀ a, a ≠ b + 5 + c → w'.2.2 a = w.2.2 a) (hf : ∀ i : Nat, (i : Int) < m 5 → rN m i 0 = u → 0 ≤ f (rN m i c) ∧ f (rN m i c) < if c = 1 then m 0 else 24) (hN : ∀ i : Nat, (i : Int) < m 5 → gI w' (b + 5 + c) i = if rN m i 0 = u then f (rN m i c) else rN m i c) : BR w' b (rSetN m u c f) := by
  have vv : ∀ a k, a ≠ b + 5 + c → gI w' a k = gI w a k := fun a k ha => gI_cell (hk a ha) k
  have l : ∀ j, j < 71 → rSetN m u c f j = m j := fun j hj => rSetN_lo hj
  have h5 := hB.ok.n
  refine ⟨hB.bx, rSetN_ok hB.ok hc hf, ?_, fun t ht => ?_, ?_, fun i hi => ?_, ?_, fun k hk1 hk2 => ?_, fun j s hj hs => ?_⟩
  · rw [l 0 (by decide), l 1 (by decide), l 2 (by decide), l 3 (by decide), l 4 (by decide), vv _ _ (by omega), vv _ _ (by omega), vv _ _ (by omega), vv _ _ (by omega), vv _ _ (by omega)]
    exact ⟨hB.s, hB.u, hB.g, hB.v, hB.t⟩
  · rw [l 4 (by decide)] at ht
    have h4 := hB.ok.t
    have e : ∀ k, k < 5 → rT (rSetN m u c f) t k = rT m t k := fun k _ => l _ (by omega)
    rw [e 0 (by decide), e 1 (by decide), e 2 (by decide), e 3 (by decide), e 4 (by decide), vv _ _ (by omega), vv _ _ (by omega), vv _ _ (by omega), vv _ _ (by omega), vv _ _ (by omega)]
    exact hB.T ht
  · rw [l 5 (by decide), vv _ _ (by omega)]
    exact hB.n
  · rw [l 5 (by decide)] at hi
    obtain ⟨f1, f2, f3⟩ := hB.N hi
    have hn := hN i hi
    rw [rSetN_N hi (by decide), rSetN_N hi (by decide), rSetN_N hi (by decide), if_neg (show ¬ (0 = c ∧ rN m i 0 = u) by omega), vv _ _ (by omega)]
    refine ⟨f1, ?_⟩
    rcases hc with rfl | rfl
    · rw [if_neg (fun z => absurd z.1 (by decide) : ¬ (2 = 1 ∧ rN m i 0 = u)), vv (b + 7) _ (by omega)]
      refine ⟨?_, f3⟩
      show gI w' (b + 5 + 1) i = _
      rw [hn]
      by_cases q : rN m i 0 = u
      · rw [if_pos q, if_pos ⟨rfl, q⟩]
      · rw [if_neg q, if_neg (fun z => q z.2)]
    · rw [if_neg (fun z => absurd z.1 (by decide) : ¬ (1 = 2 ∧ rN m i 0 = u)), vv (b + 6) _ (by omega)]
      refine ⟨f2, ?_⟩
      show gI w' (b + 5 + 2) i = _
      rw [hn]
      by_cases q : rN m i 0 = u
      · rw [if_pos q, if_pos ⟨rfl, q⟩]
      · rw [if_neg q, if_neg (fun z => q z.2)]
  · rw [l 6 (by decide), l 7 (by decide), l 8 (by decide), l 9 (by decide), l 10 (by decide), vv _ _ (by omega), vv _ _ (by omega), vv _ _ (by omega), vv _ _ (by omega), vv _ _ (by omega)]
    exact ⟨hB.pu, hB.ps, hB.pt, hB.pp, hB.pb⟩
  · rw [l 9 (by decide)] at hk2
    rw [vv _ _ (by omega), rSetN_hi hB.ok (by omega)]
    exact hB.M hk1 hk2
  · rw [gL_cell (hk (b + 3) (by omega)), hB.P hj hs]
    exact (rTr_eq hB.ok (l 0 (by decide)) (l 1 (by decide)) (l 4 (by decide)) (fun v s t hv hs ht => by unfold rPin; rw [rSetN_hi hB.ok (by omega)]) j s).symm
/-- loops over the notes of a tune -/
def NtI (f : Int → Int) (m : Row) (w w' : PW) (a : Nat) (u : Int) (i : Nat) : Prop := Sh w' ∧ (∀ c, c ≠ a → w'.2.2 c = w.2.2 c) ∧ ∀ j : Nat, (j : Int) < m 5 → gI w' a j = if j < i ∧ rN m j 0 = u then f (gI w a j) else gI w a j
theorem NtI.z {f : Int → Int} {m : Row} {w : PW} {a : Nat} {u : Int} (hs : Sh w) : NtI f m w w a u 0 := ⟨hs, fun _ _ => rfl, fun j _ => by rw [if_neg (fun z => absurd z.1 (Nat.not_lt_zero _))]⟩
theorem NtI.no {f : Int → Int} {m : Row} {w w' : PW} {a i : Nat} {u : Int} (h : NtI f m w w' a u i) (hi : rN m i 0 ≠ u) : NtI f m w w' a u (i + 1) := by
  refine ⟨h.1, h.2.1, fun j hj => ?_⟩
  rw [h.2.2 j hj]
  by_cases q : j < i ∧ rN m j 0 = u
  · rw [if_pos q, if_pos ⟨by omega, q.2⟩]
  · rw [if_neg q, if_neg]
    intro z
    refine q ⟨?_, z.2⟩
    rcases Nat.lt_or_ge j i with q2 | q2
    · exact q2
    · have : j = i := by omega
      exact absurd (this ▸ z.2) hi
theorem NtI.ys {f : Int → Int} {m : Row} {w w' w2 : PW} {a i : Nat} {u : Int} {z : Int} (h : NtI f m w w' a u i) (hi : rN m i 0 = u) (hm : (i : Int) < m 5) (ha : a < 182) (ht : tb a = (1, 0, [some 60])) (e : w2 = sI w' a i z) (hz : z = f (gI w a i)) (hb : bd z) : NtI f m w w2 a u (i + 1) := by
  obtain ⟨s2, g2, -, k2⟩ := stI e h.1 ha (slt_a ht) hb
  refine ⟨s2, fun c hc => by rw [k2 c hc, h.2.1 c hc], fun j hj => ?_⟩
  rw [g2]
  by_cases q : j = i
  · subst q
    rw [if_pos ⟨rfl, rfl⟩, if_pos ⟨by omega, hi⟩, hz]
  · rw [if_neg (fun z => q z.2), h.2.2 j hj]
    by_cases q2 : j < i ∧ rN m j 0 = u
    · rw [if_pos q2, if_pos ⟨by omega, q2.2⟩]
    · rw [if_neg q2, if_neg (fun z => q2 ⟨by omega, z.2⟩)]
theorem NtI.old {f : Int → Int} {m : Row} {w w' : PW} {a i : Nat} {u : Int} (h : NtI f m w w' a u i) (hm : (i : Int) < m 5) : gI w' a i = gI w a i := by
  rw [h.2.2 i hm, if_neg (by omega)]
/-! 183: PinBarrel$Notes.canRaise(II)Z -/
theorem b183 : mB 183 = cX2_canRaise := rfl
theorem r183 : mR 183 = (some .boolean) := rfl
theorem p183 (a b : Nat) : phi 183 a ≤ phi 183 b := Nat.le_refl 0
theorem d183_0 : decode cX2_canRaise 0 = .ok (.iconst 0, 1) := by decide +kernel
theorem d183_1 : decode cX2_canRaise 1 = .ok (.istore_n 3, 1) := by decide +kernel
theorem d183_2 : decode cX2_canRaise 2 = .ok (.iload_n 3, 1) := by decide +kernel
theorem d183_3 : decode cX2_canRaise 3 = .ok (.aload_n 0, 1) := by decide +kernel
theorem d183_4 : decode cX2_canRaise 4 = .ok (.getfield 9, 3) := by decide +kernel
theorem d183_7 : decode cX2_canRaise 7 = .ok (.if_icmp .ge 45, 3) := by decide +kernel
theorem d183_10 : decode cX2_canRaise 10 = .ok (.aload_n 0, 1) := by decide +kernel
theorem d183_11 : decode cX2_canRaise 11 = .ok (.getfield 15, 3) := by decide +kernel
theorem d183_14 : decode cX2_canRaise 14 = .ok (.iload_n 3, 1) := by decide +kernel
theorem d183_15 : decode cX2_canRaise 15 = .ok (.iaload, 1) := by decide +kernel
theorem d183_16 : decode cX2_canRaise 16 = .ok (.iload_n 1, 1) := by decide +kernel
theorem d183_17 : decode cX2_canRaise 17 = .ok (.if_icmp .ne 29, 3) := by decide +kernel
theorem d183_20 : decode cX2_canRaise 20 = .ok (.aload_n 0, 1) := by decide +kernel
theorem d183_21 : decode cX2_canRaise 21 = .ok (.getfield 22, 3) := by decide +kernel
theorem d183_24 : decode cX2_canRaise 24 = .ok (.iload_n 3, 1) := by decide +kernel
theorem d183_25 : decode cX2_canRaise 25 = .ok (.iaload, 1) := by decide +kernel
theorem d183_26 : decode cX2_canRaise 26 = .ok (.iload_n 2, 1) := by decide +kernel
theorem d183_27 : decode cX2_canRaise 27 = .ok (.iadd, 1) := by decide +kernel
theorem d183_28 : decode cX2_canRaise 28 = .ok (.ifCond .lt 16, 3) := by decide +kernel
theorem d183_31 : decode cX2_canRaise 31 = .ok (.aload_n 0, 1) := by decide +kernel
theorem d183_32 : decode cX2_canRaise 32 = .ok (.getfield 22, 3) := by decide +kernel
theorem d183_35 : decode cX2_canRaise 35 = .ok (.iload_n 3, 1) := by decide +kernel
theorem d183_36 : decode cX2_canRaise 36 = .ok (.iaload, 1) := by decide +kernel
theorem d183_37 : decode cX2_canRaise 37 = .ok (.iload_n 2, 1) := by decide +kernel
theorem d183_38 : decode cX2_canRaise 38 = .ok (.iadd, 1) := by decide +kernel
theorem d183_39 : decode cX2_canRaise 39 = .ok (.bipush 24, 2) := by decide +kernel
theorem d183_41 : decode cX2_canRaise 41 = .ok (.if_icmp .lt 5, 3) := by decide +kernel
theorem d183_44 : decode cX2_canRaise 44 = .ok (.iconst 0, 1) := by decide +kernel
theorem d183_45 : decode cX2_canRaise 45 = .ok (.ireturn, 1) := by decide +kernel
theorem d183_46 : decode cX2_canRaise 46 = .ok (.iinc 3 1, 3) := by decide +kernel
theorem d183_49 : decode cX2_canRaise 49 = .ok (.goto (-47), 3) := by decide +kernel
theorem d183_52 : decode cX2_canRaise 52 = .ok (.iconst 1, 1) := by decide +kernel
theorem d183_53 : decode cX2_canRaise 53 = .ok (.ireturn, 1) := by decide +kernel
theorem v183_0 {w : PW} {Q : PO → PW → Prop} {b : Nat} {x1 : Int} {x2 : Int} (hs : Sh w) (hb : bx b) (hx1 : bd x1) (hx2 : bd x2) (h : pX 183 2 [some (.ref (b + 4)), some (iv x1), some (iv x2), some (iv 0)] [] w Q) : pX 183 0 [some (.ref (b + 4)), some (iv x1), some (iv x2), none] [] w Q :=
  w_f b183 d183_0 rfl rfl rfl <| w_f b183 d183_1 rfl rfl rfl <| h
theorem e183 {w : PW} {Q : PO → PW → Prop} {b : Nat} {x1 : Int} {x2 : Int} (hs : Sh w) (hb : bx b) (hx1 : bd x1) (hx2 : bd x2) (h : pX 183 2 [some (.ref (b + 4)), some (iv x1), some (iv x2), some (iv 0)] [] w Q) : pC 183 [.ref (b + 4), iv x1, iv x2] w Q :=
  (pC_in (Nat.le_of_ble_eq_true rfl) rfl Q).mpr (v183_0 hs hb hx1 hx2 h)
theorem v183_2 {w : PW} {Q : PO → PW → Prop} {b : Nat} {x1 : Int} {x2 : Int} {x3 : Int} (hs : Sh w) (hb : bx b) (hx1 : bd x1) (hx2 : bd x2) (hx3 : bd x3) (h : ((gI w (b + 4) 0) ≤ x3 → Q (.inl (some (iv 1))) w) ∧ (x3 < (gI w (b + 4) 0) → (0 ≤ x3 ∧ x3 < 60) ∧ ((gI w (b + 5) x3.toNat) ≠ x1 → pX 183 2 [some (.ref (b + 4)), some (iv x1), some (iv x2), some (iv (x3 + 1))] [] w Q) ∧ ((gI w (b + 5) x3.toNat) = x1 → (0 ≤ x3 ∧ x3 < 60) ∧ (bd ((gI w (b + 7) x3.toNat) + x2)) ∧ (((gI w (b + 7) x3.toNat) + x2) < 0 → Q (.inl (some (iv 0))) w) ∧ (0 ≤ ((gI w (b + 7) x3.toNat) + x2) → (0 ≤ x3 ∧ x3 < 60) ∧ (bd ((gI w (b + 7) x3.toNat) + x2)) ∧ (((gI w (b + 7) x3.toNat) + x2) < 24 → pX 183 2 [some (.ref (b + 4)), some (iv x1), some (iv x2), some (iv (x3 + 1))] [] w Q) ∧ (24 ≤ ((gI w (b + 7) x3.toNat) + x2) → Q (.inl (some (iv 0))) w))))) : pX 183 2 [some (.ref (b + 4)), some (iv x1), some (iv x2), some (iv x3)] [] w Q :=
  w_f b183 d183_2 rfl rfl rfl <| w_f b183 d183_3 rfl rfl rfl <| w_gi b183 d183_4 rfl rfl hs (bxk hb 4 rfl) (tb4 hb) rfl <| w_icge b183 d183_7 rfl rfl (p183 _ _) hx3 (bd_gI _ _ _) (fun c1 => w_f b183 d183_52 rfl rfl rfl <| w_rz b183 d183_53 r183 (by decide) (h.1 c1)) (fun c1 => w_f b183 d183_10 rfl rfl rfl <| w_gr b183 d183_11 rfl rfl hs (bxk hb 4 rfl) (tb4 hb) rfl (bxr hb 5 rfl) <| w_f b183 d183_14 rfl rfl rfl <| w_ial b183 d183_15 rfl hs (bxk hb 5 rfl) (tb5 hb) (bdix (n := 60) (h.2 c1).1 rfl) (h.2 c1).1 <| w_f b183 d183_16 rfl rfl rfl <| w_icne b183 d183_17 rfl rfl (p183 _ _) (bd_gI _ _ _) hx1 (fun c2 => w_f b183 d183_46 rfl (pf_iinc rfl rfl) rfl <| w_j b183 d183_49 rfl (p183 _ _) <| ((h.2 c1).2.1 c2)) (fun c2 => w_f b183 d183_20 rfl rfl rfl <| w_gr b183 d183_21 rfl rfl hs (bxk hb 4 rfl) (tb4 hb) rfl (bxr hb 7 rfl) <| w_f b183 d183_24 rfl rfl rfl <| w_ial b183 d183_25 rfl hs (bxk hb 7 rfl) (tb7 hb) (bdix (n := 60) ((h.2 c1).2.2 c2).1 rfl) ((h.2 c1).2.2 c2).1 <| w_f b183 d183_26 rfl rfl rfl <| w_f b183 d183_27 rfl (pf_iadd (gI w (b + 7) x3.toNat) x2) rfl <| w_iflt b183 d183_28 rfl rfl (p183 _ _) ((h.2 c1).2.2 c2).2.1 (fun c3 => w_f b183 d183_44 rfl rfl rfl <| w_rz b183 d183_45 r183 (by decide) (((h.2 c1).2.2 c2).2.2.1 c3)) (fun c3 => w_f b183 d183_31 rfl rfl rfl <| w_gr b183 d183_32 rfl rfl hs (bxk hb 4 rfl) (tb4 hb) rfl (bxr hb 7 rfl) <| w_f b183 d183_35 rfl rfl rfl <| w_ial b183 d183_36 rfl hs (bxk hb 7 rfl) (tb7 hb) (bdix (n := 60) (((h.2 c1).2.2 c2).2.2.2 c3).1 rfl) (((h.2 c1).2.2 c2).2.2.2 c3).1 <| w_f b183 d183_37 rfl rfl rfl <| w_f b183 d183_38 rfl (pf_iadd (gI w (b + 7) x3.toNat) x2) rfl <| w_f b183 d183_39 rfl rfl rfl <| w_iclt b183 d183_41 rfl rfl (p183 _ _) (((h.2 c1).2.2 c2).2.2.2 c3).2.1 ⟨by decide, by decide⟩ (fun c4 => w_f b183 d183_46 rfl (pf_iinc rfl rfl) rfl <| w_j b183 d183_49 rfl (p183 _ _) <| ((((h.2 c1).2.2 c2).2.2.2 c3).2.2.1 c4)) (fun c4 => w_f b183 d183_44 rfl rfl rfl <| w_rz b183 d183_45 r183 (by decide) ((((h.2 c1).2.2 c2).2.2.2 c3).2.2.2 c4)))))
/-! 184: PinBarrel$Notes.raise(II)V -/
theorem b184 : mB 184 = cX2_raise := rfl
theorem r184 : mR 184 = none := rfl
theorem p184 (a b : Nat) : phi 184 a ≤ phi 184 b := Nat.le_refl 0
theorem d184_0 : decode cX2_raise 0 = .ok (.iconst 0, 1) := by decide +kernel
theorem d184_1 : decode cX2_raise 1 = .ok (.istore_n 3, 1) := by decide +kernel
theorem d184_2 : decode cX2_raise 2 = .ok (.iload_n 3, 1) := by decide +kernel
theorem d184_3 : decode cX2_raise 3 = .ok (.aload_n 0, 1) := by decide +kernel
theorem d184_4 : decode cX2_raise 4 = .ok (.getfield 9, 3) := by decide +kernel
theorem d184_7 : decode cX2_raise 7 = .ok (.if_icmp .ge 29, 3) := by decide +kernel
theorem d184_10 : decode cX2_raise 10 = .ok (.aload_n 0, 1) := by decide +kernel
theorem d184_11 : decode cX2_raise 11 = .ok (.getfield 15, 3) := by decide +kernel
theorem d184_14 : decode cX2_raise 14 = .ok (.iload_n 3, 1) := by decide +kernel
theorem d184_15 : decode cX2_raise 15 = .ok (.iaload, 1) := by decide +kernel
theorem d184_16 : decode cX2_raise 16 = .ok (.iload_n 1, 1) := by decide +kernel
theorem d184_17 : decode cX2_raise 17 = .ok (.if_icmp .ne 13, 3) := by decide +kernel
theorem d184_20 : decode cX2_raise 20 = .ok (.aload_n 0, 1) := by decide +kernel
theorem d184_21 : decode cX2_raise 21 = .ok (.getfield 22, 3) := by decide +kernel
theorem d184_24 : decode cX2_raise 24 = .ok (.iload_n 3, 1) := by decide +kernel
theorem d184_25 : decode cX2_raise 25 = .ok (.dup2, 1) := by decide +kernel
theorem d184_26 : decode cX2_raise 26 = .ok (.iaload, 1) := by decide +kernel
theorem d184_27 : decode cX2_raise 27 = .ok (.iload_n 2, 1) := by decide +kernel
theorem d184_28 : decode cX2_raise 28 = .ok (.iadd, 1) := by decide +kernel
theorem d184_29 : decode cX2_raise 29 = .ok (.iastore, 1) := by decide +kernel
theorem d184_30 : decode cX2_raise 30 = .ok (.iinc 3 1, 3) := by decide +kernel
theorem d184_33 : decode cX2_raise 33 = .ok (.goto (-31), 3) := by decide +kernel
theorem d184_36 : decode cX2_raise 36 = .ok (.return_, 1) := by decide +kernel
theorem v184_0 {w : PW} {Q : PO → PW → Prop} {b : Nat} {x1 : Int} {x2 : Int} (hs : Sh w) (hb : bx b) (hx1 : bd x1) (hx2 : bd x2) (h : pX 184 2 [some (.ref (b + 4)), some (iv x1), some (iv x2), some (iv 0)] [] w Q) : pX 184 0 [some (.ref (b + 4)), some (iv x1), some (iv x2), none] [] w Q :=
  w_f b184 d184_0 rfl rfl rfl <| w_f b184 d184_1 rfl rfl rfl <| h
theorem e184 {w : PW} {Q : PO → PW → Prop} {b : Nat} {x1 : Int} {x2 : Int} (hs : Sh w) (hb : bx b) (hx1 : bd x1) (hx2 : bd x2) (h : pX 184 2 [some (.ref (b + 4)), some (iv x1), some (iv x2), some (iv 0)] [] w Q) : pC 184 [.ref (b + 4), iv x1, iv x2] w Q :=
  (pC_in (Nat.le_of_ble_eq_true rfl) rfl Q).mpr (v184_0 hs hb hx1 hx2 h)
theorem v184_2 {w : PW} {Q : PO → PW → Prop} {b : Nat} {x1 : Int} {x2 : Int} {x3 : Int} (hs : Sh w) (hb : bx b) (hx1 : bd x1) (hx2 : bd x2) (hx3 : bd x3) (h : ((gI w (b + 4) 0) ≤ x3 → Q (.inl none) w) ∧ (x3 < (gI w (b + 4) 0) → (0 ≤ x3 ∧ x3 < 60) ∧ ((gI w (b + 5) x3.toNat) ≠ x1 → pX 184 2 [some (.ref (b + 4)), some (iv x1), some (iv x2), some (iv (x3 + 1))] [] w Q) ∧ ((gI w (b + 5) x3.toNat) = x1 → (0 ≤ x3 ∧ x3 < 60) ∧ (0 ≤ x3 ∧ x3 < 60) ∧ ∀ w3 : PW, w3 = sI w (b + 7) x3.toNat ((gI w (b + 7) x3.toNat) + x2) → pX 184 2 [some (.ref (b + 4)), some (iv x1), some (iv x2), some (iv (x3 + 1))] [] w3 Q))) : pX 184 2 [some (.ref (b + 4)), some (iv x1), some (iv x2), some (iv x3)] [] w Q :=
  w_f b184 d184_2 rfl rfl rfl <| w_f b184 d184_3 rfl rfl rfl <| w_gi b184 d184_4 rfl rfl hs (bxk hb 4 rfl) (tb4 hb) rfl <| w_icge b184 d184_7 rfl rfl (p184 _ _) hx3 (bd_gI _ _ _) (fun c1 => w_rv b184 d184_36 r184 (h.1 c1)) (fun c1 => w_f b184 d184_10 rfl rfl rfl <| w_gr b184 d184_11 rfl rfl hs (bxk hb 4 rfl) (tb4 hb) rfl (bxr hb 5 rfl) <| w_f b184 d184_14 rfl rfl rfl <| w_ial b184 d184_15 rfl hs (bxk hb 5 rfl) (tb5 hb) (bdix (n := 60) (h.2 c1).1 rfl) (h.2 c1).1 <| w_f b184 d184_16 rfl rfl rfl <| w_icne b184 d184_17 rfl rfl (p184 _ _) (bd_gI _ _ _) hx1 (fun c2 => w_f b184 d184_30 rfl (pf_iinc rfl rfl) rfl <| w_j b184 d184_33 rfl (p184 _ _) <| ((h.2 c1).2.1 c2)) (fun c2 => w_f b184 d184_20 rfl rfl rfl <| w_gr b184 d184_21 rfl rfl hs (bxk hb 4 rfl) (tb4 hb) rfl (bxr hb 7 rfl) <| w_f b184 d184_24 rfl rfl rfl <| w_f b184 d184_25 rfl rfl rfl <| w_ial b184 d184_26 rfl hs (bxk hb 7 rfl) (tb7 hb) (bdix (n := 60) ((h.2 c1).2.2 c2).1 rfl) ((h.2 c1).2.2 c2).1 <| w_f b184 d184_27 rfl rfl rfl <| w_f b184 d184_28 rfl (pf_iadd (gI w (b + 7) x3.toNat) x2) rfl <| w_ias b184 d184_29 rfl hs (bxk hb 7 rfl) (tb7 hb) (bdix (n := 60) ((h.2 c1).2.2 c2).2.1 rfl) ((h.2 c1).2.2 c2).2.1 <| w_f b184 d184_30 rfl (pf_iinc rfl rfl) rfl <| w_j b184 d184_33 rfl (p184 _ _) <| (((h.2 c1).2.2 c2).2.2 _ rfl)))
/-! 187: PinBarrel$Notes.move(III)V -/
theorem b187 : mB 187 = cX2_move := rfl
theorem r187 : mR 187 = none := rfl
theorem p187 (a b : Nat) : phi 187 a ≤ phi 187 b := Nat.le_refl 0
theorem d187_0 : decode cX2_move 0 = .ok (.iconst 0, 1) := by decide +kernel
theorem d187_1 : decode cX2_move 1 = .ok (.istore 4, 2) := by decide +kernel
theorem d187_3 : decode cX2_move 3 = .ok (.iload 4, 2) := by decide +kernel
theorem d187_5 : decode cX2_move 5 = .ok (.aload_n 0, 1) := by decide +kernel
theorem d187_6 : decode cX2_move 6 = .ok (.getfield 9, 3) := by decide +kernel
theorem d187_9 : decode cX2_move 9 = .ok (.if_icmp .ge 40, 3) := by decide +kernel
theorem d187_12 : decode cX2_move 12 = .ok (.aload_n 0, 1) := by decide +kernel
theorem d187_13 : decode cX2_move 13 = .ok (.getfield 15, 3) := by decide +kernel
theorem d187_16 : decode cX2_move 16 = .ok (.iload 4, 2) := by decide +kernel
theorem d187_18 : decode cX2_move 18 = .ok (.iaload, 1) := by decide +kernel
theorem d187_19 : decode cX2_move 19 = .ok (.iload_n 1, 1) := by decide +kernel
theorem d187_20 : decode cX2_move 20 = .ok (.if_icmp .ne 23, 3) := by decide +kernel
theorem d187_23 : decode cX2_move 23 = .ok (.aload_n 0, 1) := by decide +kernel
theorem d187_24 : decode cX2_move 24 = .ok (.getfield 19, 3) := by decide +kernel
theorem d187_27 : decode cX2_move 27 = .ok (.iload 4, 2) := by decide +kernel
theorem d187_29 : decode cX2_move 29 = .ok (.aload_n 0, 1) := by decide +kernel
theorem d187_30 : decode cX2_move 30 = .ok (.getfield 19, 3) := by decide +kernel
theorem d187_33 : decode cX2_move 33 = .ok (.iload 4, 2) := by decide +kernel
theorem d187_35 : decode cX2_move 35 = .ok (.iaload, 1) := by decide +kernel
theorem d187_36 : decode cX2_move 36 = .ok (.iload_n 2, 1) := by decide +kernel
theorem d187_37 : decode cX2_move 37 = .ok (.iadd, 1) := by decide +kernel
theorem d187_38 : decode cX2_move 38 = .ok (.iload_n 3, 1) := by decide +kernel
theorem d187_39 : decode cX2_move 39 = .ok (.invokestatic 31, 3) := by decide +kernel
theorem d187_42 : decode cX2_move 42 = .ok (.iastore, 1) := by decide +kernel
theorem d187_43 : decode cX2_move 43 = .ok (.iinc 4 1, 3) := by decide +kernel
theorem d187_46 : decode cX2_move 46 = .ok (.goto (-43), 3) := by decide +kernel
theorem d187_49 : decode cX2_move 49 = .ok (.return_, 1) := by decide +kernel
theorem v187_0 {w : PW} {Q : PO → PW → Prop} {b : Nat} {x1 : Int} {x2 : Int} {x3 : Int} (hs : Sh w) (hb : bx b) (hx1 : bd x1) (hx2 : bd x2) (hx3 : bd x3) (h : pX 187 3 [some (.ref (b + 4)), some (iv x1), some (iv x2), some (iv x3), some (iv 0)] [] w Q) : pX 187 0 [some (.ref (b + 4)), some (iv x1), some (iv x2), some (iv x3), none] [] w Q :=
  w_f b187 d187_0 rfl rfl rfl <| w_f b187 d187_1 rfl rfl rfl <| h
theorem e187 {w : PW} {Q : PO → PW → Prop} {b : Nat} {x1 : Int} {x2 : Int} {x3 : Int} (hs : Sh w) (hb : bx b) (hx1 : bd x1) (hx2 : bd x2) (hx3 : bd x3) (h : pX 187 3 [some (.ref (b + 4)), some (iv x1), some (iv x2), some (iv x3), some (iv 0)] [] w Q) : pC 187 [.ref (b + 4), iv x1, iv x2, iv x3] w Q :=
  (pC_in (Nat.le_of_ble_eq_true rfl) rfl Q).mpr (v187_0 hs hb hx1 hx2 hx3 h)
theorem v187_3 {w : PW} {Q : PO → PW → Prop} {b : Nat} {x1 : Int} {x2 : Int} {x3 : Int} {x4 : Int} (hs : Sh w) (hb : bx b) (hx1 : bd x1) (hx2 : bd x2) (hx3 : bd x3) (hx4 : bd x4) (h : ((gI w (b + 4) 0) ≤ x4 → Q (.inl none) w) ∧ (x4 < (gI w (b + 4) 0) → (0 ≤ x4 ∧ x4 < 60) ∧ ((gI w (b + 5) x4.toNat) ≠ x1 → pX 187 3 [some (.ref (b + 4)), some (iv x1), some (iv x2), some (iv x3), some (iv (x4 + 1))] [] w Q) ∧ ((gI w (b + 5) x4.toNat) = x1 → (0 ≤ x4 ∧ x4 < 60) ∧ (bd ((gI w (b + 6) x4.toNat) + x2)) ∧ (0 ≤ x4 ∧ x4 < 60) ∧ ∀ w3 : PW, w3 = sI w (b + 6) x4.toNat (wrp ((gI w (b + 6) x4.toNat) + x2) x3) → pX 187 3 [some (.ref (b + 4)), some (iv x1), some (iv x2), some (iv x3), some (iv (x4 + 1))] [] w3 Q))) : pX 187 3 [some (.ref (b + 4)), some (iv x1), some (iv x2), some (iv x3), some (iv x4)] [] w Q :=
  w_f b187 d187_3 rfl rfl rfl <| w_f b187 d187_5 rfl rfl rfl <| w_gi b187 d187_6 rfl rfl hs (bxk hb 4 rfl) (tb4 hb) rfl <| w_icge b187 d187_9 rfl rfl (p187 _ _) hx4 (bd_gI _ _ _) (fun c1 => w_rv b187 d187_49 r187 (h.1 c1)) (fun c1 => w_f b187 d187_12 rfl rfl rfl <| w_gr b187 d187_13 rfl rfl hs (bxk hb 4 rfl) (tb4 hb) rfl (bxr hb 5 rfl) <| w_f b187 d187_16 rfl rfl rfl <| w_ial b187 d187_18 rfl hs (bxk hb 5 rfl) (tb5 hb) (bdix (n := 60) (h.2 c1).1 rfl) (h.2 c1).1 <| w_f b187 d187_19 rfl rfl rfl <| w_icne b187 d187_20 rfl rfl (p187 _ _) (bd_gI _ _ _) hx1 (fun c2 => w_f b187 d187_43 rfl (pf_iinc rfl rfl) rfl <| w_j b187 d187_46 rfl (p187 _ _) <| ((h.2 c1).2.1 c2)) (fun c2 => w_f b187 d187_23 rfl rfl rfl <| w_gr b187 d187_24 rfl rfl hs (bxk hb 4 rfl) (tb4 hb) rfl (bxr hb 6 rfl) <| w_f b187 d187_27 rfl rfl rfl <| w_f b187 d187_29 rfl rfl rfl <| w_gr b187 d187_30 rfl rfl hs (bxk hb 4 rfl) (tb4 hb) rfl (bxr hb 6 rfl) <| w_f b187 d187_33 rfl rfl rfl <| w_ial b187 d187_35 rfl hs (bxk hb 6 rfl) (tb6 hb) (bdix (n := 60) ((h.2 c1).2.2 c2).1 rfl) ((h.2 c1).2.2 c2).1 <| w_f b187 d187_36 rfl rfl rfl <| w_f b187 d187_37 rfl (pf_iadd (gI w (b + 6) x4.toNat) x2) rfl <| w_f b187 d187_38 rfl rfl rfl <| w_cc b187 d187_39 rfl (pcl_s1 (n := 2) rfl rfl rfl (by decide +kernel) rfl rfl) rfl <| c47 hs ((h.2 c1).2.2 c2).2.1 hx3 <| w_ias b187 d187_42 rfl hs (bxk hb 6 rfl) (tb6 hb) (bdix (n := 60) ((h.2 c1).2.2 c2).2.2.1 rfl) ((h.2 c1).2.2 c2).2.2.1 <| w_f b187 d187_43 rfl (pf_iinc rfl rfl) rfl <| w_j b187 d187_46 rfl (p187 _ _) <| (((h.2 c1).2.2 c2).2.2.2 _ rfl)))
/-! 192: PinBarrel$Notes.mirror(II)V -/
theorem b192 : mB 192 = cX2_mirror := rfl
theorem r192 : mR 192 = none := rfl
theorem p192 (a b : Nat) : phi 192 a ≤ phi 192 b := Nat.le_refl 0
theorem d192_0 : decode cX2_mirror 0 = .ok (.iconst 0, 1) := by decide +kernel
theorem d192_1 : decode cX2_mirror 1 = .ok (.istore_n 3, 1) := by decide +kernel
theorem d192_2 : decode cX2_mirror 2 = .ok (.iload_n 3, 1) := by decide +kernel
theorem d192_3 : decode cX2_mirror 3 = .ok (.aload_n 0, 1) := by decide +kernel
theorem d192_4 : decode cX2_mirror 4 = .ok (.getfield 9, 3) := by decide +kernel
theorem d192_7 : decode cX2_mirror 7 = .ok (.if_icmp .ge 35, 3) := by decide +kernel
theorem d192_10 : decode cX2_mirror 10 = .ok (.aload_n 0, 1) := by decide +kernel
theorem d192_11 : decode cX2_mirror 11 = .ok (.getfield 15, 3) := by decide +kernel
theorem d192_14 : decode cX2_mirror 14 = .ok (.iload_n 3, 1) := by decide +kernel
theorem d192_15 : decode cX2_mirror 15 = .ok (.iaload, 1) := by decide +kernel
theorem d192_16 : decode cX2_mirror 16 = .ok (.iload_n 1, 1) := by decide +kernel
theorem d192_17 : decode cX2_mirror 17 = .ok (.if_icmp .ne 19, 3) := by decide +kernel
theorem d192_20 : decode cX2_mirror 20 = .ok (.aload_n 0, 1) := by decide +kernel
theorem d192_21 : decode cX2_mirror 21 = .ok (.getfield 19, 3) := by decide +kernel
theorem d192_24 : decode cX2_mirror 24 = .ok (.iload_n 3, 1) := by decide +kernel
theorem d192_25 : decode cX2_mirror 25 = .ok (.iload_n 2, 1) := by decide +kernel
theorem d192_26 : decode cX2_mirror 26 = .ok (.iconst 1, 1) := by decide +kernel
theorem d192_27 : decode cX2_mirror 27 = .ok (.isub, 1) := by decide +kernel
theorem d192_28 : decode cX2_mirror 28 = .ok (.aload_n 0, 1) := by decide +kernel
theorem d192_29 : decode cX2_mirror 29 = .ok (.getfield 19, 3) := by decide +kernel
theorem d192_32 : decode cX2_mirror 32 = .ok (.iload_n 3, 1) := by decide +kernel
theorem d192_33 : decode cX2_mirror 33 = .ok (.iaload, 1) := by decide +kernel
theorem d192_34 : decode cX2_mirror 34 = .ok (.isub, 1) := by decide +kernel
theorem d192_35 : decode cX2_mirror 35 = .ok (.iastore, 1) := by decide +kernel
theorem d192_36 : decode cX2_mirror 36 = .ok (.iinc 3 1, 3) := by decide +kernel
theorem d192_39 : decode cX2_mirror 39 = .ok (.goto (-37), 3) := by decide +kernel
theorem d192_42 : decode cX2_mirror 42 = .ok (.return_, 1) := by decide +kernel
theorem v192_0 {w : PW} {Q : PO → PW → Prop} {b : Nat} {x1 : Int} {x2 : Int} (hs : Sh w) (hb : bx b) (hx1 : bd x1) (hx2 : bd x2) (h : pX 192 2 [some (.ref (b + 4)), some (iv x1), some (iv x2), some (iv 0)] [] w Q) : pX 192 0 [some (.ref (b + 4)), some (iv x1), some (iv x2), none] [] w Q :=
  w_f b192 d192_0 rfl rfl rfl <| w_f b192 d192_1 rfl rfl rfl <| h
theorem e192 {w : PW} {Q : PO → PW → Prop} {b : Nat} {x1 : Int} {x2 : Int} (hs : Sh w) (hb : bx b) (hx1 : bd x1) (hx2 : bd x2) (h : pX 192 2 [some (.ref (b + 4)), some (iv x1), some (iv x2), some (iv 0)] [] w Q) : pC 192 [.ref (b + 4), iv x1, iv x2] w Q :=
  (pC_in (Nat.le_of_ble_eq_true rfl) rfl Q).mpr (v192_0 hs hb hx1 hx2 h)
theorem v192_2 {w : PW} {Q : PO → PW → Prop} {b : Nat} {x1 : Int} {x2 : Int} {x3 : Int} (hs : Sh w) (hb : bx b) (hx1 : bd x1) (hx2 : bd x2) (hx3 : bd x3) (h : ((gI w (b + 4) 0) ≤ x3 → Q (.inl none) w) ∧ (x3 < (gI w (b + 4) 0) → (0 ≤ x3 ∧ x3 < 60) ∧ ((gI w (b + 5) x3.toNat) ≠ x1 → pX 192 2 [some (.ref (b + 4)), some (iv x1), some (iv x2), some (iv (x3 + 1))] [] w Q) ∧ ((gI w (b + 5) x3.toNat) = x1 → (0 ≤ x3 ∧ x3 < 60) ∧ (0 ≤ x3 ∧ x3 < 60) ∧ ∀ w3 : PW, w3 = sI w (b + 6) x3.toNat ((x2 - 1) - (gI w (b + 6) x3.toNat)) → pX 192 2 [some (.ref (b + 4)), some (iv x1), some (iv x2), some (iv (x3 + 1))] [] w3 Q))) : pX 192 2 [some (.ref (b + 4)), some (iv x1), some (iv x2), some (iv x3)] [] w Q :=
  w_f b192 d192_2 rfl rfl rfl <| w_f b192 d192_3 rfl rfl rfl <| w_gi b192 d192_4 rfl rfl hs (bxk hb 4 rfl) (tb4 hb) rfl <| w_icge b192 d192_7 rfl rfl (p192 _ _) hx3 (bd_gI _ _ _) (fun c1 => w_rv b192 d192_42 r192 (h.1 c1)) (fun c1 => w_f b192 d192_10 rfl rfl rfl <| w_gr b192 d192_11 rfl rfl hs (bxk hb 4 rfl) (tb4 hb) rfl (bxr hb 5 rfl) <| w_f b192 d192_14 rfl rfl rfl <| w_ial b192 d192_15 rfl hs (bxk hb 5 rfl) (tb5 hb) (bdix (n := 60) (h.2 c1).1 rfl) (h.2 c1).1 <| w_f b192 d192_16 rfl rfl rfl <| w_icne b192 d192_17 rfl rfl (p192 _ _) (bd_gI _ _ _) hx1 (fun c2 => w_f b192 d192_36 rfl (pf_iinc rfl rfl) rfl <| w_j b192 d192_39 rfl (p192 _ _) <| ((h.2 c1).2.1 c2)) (fun c2 => w_f b192 d192_20 rfl rfl rfl <| w_gr b192 d192_21 rfl rfl hs (bxk hb 4 rfl) (tb4 hb) rfl (bxr hb 6 rfl) <| w_f b192 d192_24 rfl rfl rfl <| w_f b192 d192_25 rfl rfl rfl <| w_f b192 d192_26 rfl rfl rfl <| w_f b192 d192_27 rfl (pf_isub x2 1) rfl <| w_f b192 d192_28 rfl rfl rfl <| w_gr b192 d192_29 rfl rfl hs (bxk hb 4 rfl) (tb4 hb) rfl (bxr hb 6 rfl) <| w_f b192 d192_32 rfl rfl rfl <| w_ial b192 d192_33 rfl hs (bxk hb 6 rfl) (tb6 hb) (bdix (n := 60) ((h.2 c1).2.2 c2).1 rfl) ((h.2 c1).2.2 c2).1 <| w_f b192 d192_34 rfl (pf_isub (x2 - 1) (gI w (b + 6) x3.toNat)) rfl <| w_ias b192 d192_35 rfl hs (bxk hb 6 rfl) (tb6 hb) (bdix (n := 60) ((h.2 c1).2.2 c2).2.1 rfl) ((h.2 c1).2.2 c2).2.1 <| w_f b192 d192_36 rfl (pf_iinc rfl rfl) rfl <| w_j b192 d192_39 rfl (p192 _ _) <| (((h.2 c1).2.2 c2).2.2 _ rfl)))
theorem l184_2 {w : PW} {Q : PO → PW → Prop} {b : Nat} {m : Row} {u y : Int} (hs : Sh w) (hB : BR w b m) (hu : bd u) (hy : -23 ≤ y ∧ y ≤ 23) (h : ∀ w2, NtI (fun z => z + y) m w w2 (b + 5 + 2) u (m 5).toNat → Q (.inl none) w2) : ∀ k i : Nat, i + k = (m 5).toNat → ∀ w', NtI (fun z => z + y) m w w' (b + 5 + 2) u i → pX 184 2 [some (.ref (b + 4)), some (iv u), some (iv y), some (iv (i : Nat))] [] w' Q := by
  have a0 := bx_lt hB.bx
  have h5 := hB.ok.n
  have h0 := hB.ok.s
  intro k
  induction k with
  | zero =>
    intro i hi w' hI
    have n0 : gI w' (b + 4) 0 = m 5 := by rw [gI_cell (hI.2.1 (b + 4) (by omega))]; exact hB.n
    refine v184_2 hI.1 hB.bx hu ⟨by omega, by omega⟩ (bdk (by omega)) ?_
    rw [n0]
    refine ⟨fun _ => ?_, fun q => by omega⟩
    rw [show i = (m 5).toNat from by omega] at hI
    exact h w' hI
  | succ k ih =>
    intro i hi w' hI
    have hi5 : (i : Int) < m 5 := by omega
    obtain ⟨f1, f2, f3⟩ := hB.N hi5
    obtain ⟨g1, g2, g3⟩ := hB.ok.N hi5
    have n0 : gI w' (b + 4) 0 = m 5 := by rw [gI_cell (hI.2.1 (b + 4) (by omega))]; exact hB.n
    have n1 : gI w' (b + 5) i = rN m i 0 := by rw [gI_cell (hI.2.1 (b + 5) (by omega))]; exact f1
    have n2 : gI w' (b + 7) i = rN m i 2 := by
      have := hI.old hi5
      show gI w' (b + 5 + 2) i = _
      rw [this]
      exact f3
    have hb6 : 0 ≤ (i : Int) ∧ (i : Int) < 60 := ⟨by omega, by omega⟩
    refine v184_2 hI.1 hB.bx hu ⟨by omega, by omega⟩ (bdk (by omega)) ?_
    rw [n0, Int.toNat_natCast, n1, n2]
    refine ⟨fun q => by omega, fun _ => ⟨hb6, fun q => ih (i + 1) (by omega) _ (hI.no q), fun q => ⟨hb6, hb6, fun w3 e3 => ?_⟩⟩⟩
    exact ih (i + 1) (by omega) _ (hI.ys q hi5 (by omega) (tb7 hB.bx) e3 (by show _ = (fun z => z + y) (gI w (b + 7) i); rw [f3]) ⟨by omega, by omega⟩)
theorem l187_3 {w : PW} {Q : PO → PW → Prop} {b : Nat} {m : Row} {u y : Int} (hs : Sh w) (hB : BR w b m) (hu : bd u) (hy : 0 ≤ y ∧ y < m 0) (h : ∀ w2, NtI (fun z => wrp (z + y) (m 0)) m w w2 (b + 5 + 1) u (m 5).toNat → Q (.inl none) w2) : ∀ k i : Nat, i + k = (m 5).toNat → ∀ w', NtI (fun z => wrp (z + y) (m 0)) m w w' (b + 5 + 1) u i → pX 187 3 [some (.ref (b + 4)), some (iv u), some (iv y), some (iv (m 0)), some (iv (i : Nat))] [] w' Q := by
  have a0 := bx_lt hB.bx
  have h5 := hB.ok.n
  have h0 := hB.ok.s
  intro k
  induction k with
  | zero =>
    intro i hi w' hI
    have n0 : gI w' (b + 4) 0 = m 5 := by rw [gI_cell (hI.2.1 (b + 4) (by omega))]; exact hB.n
    refine v187_3 hI.1 hB.bx hu ⟨by omega, by omega⟩ ⟨by omega, by omega⟩ (bdk (by omega)) ?_
    rw [n0]
    refine ⟨fun _ => ?_, fun q => by omega⟩
    rw [show i = (m 5).toNat from by omega] at hI
    exact h w' hI
  | succ k ih =>
    intro i hi w' hI
    have hi5 : (i : Int) < m 5 := by omega
    obtain ⟨f1, f2, f3⟩ := hB.N hi5
    obtain ⟨g1, g2, g3⟩ := hB.ok.N hi5
    have n0 : gI w' (b + 4) 0 = m 5 := by rw [gI_cell (hI.2.1 (b + 4) (by omega))]; exact hB.n
    have n1 : gI w' (b + 5) i = rN m i 0 := by rw [gI_cell (hI.2.1 (b + 5) (by omega))]; exact f1
    have n2 : gI w' (b + 6) i = rN m i 1 := by
      have := hI.old hi5
      show gI w' (b + 5 + 1) i = _
      rw [this]
      exact f2
    have hb6 : 0 ≤ (i : Int) ∧ (i : Int) < 60 := ⟨by omega, by omega⟩
    refine v187_3 hI.1 hB.bx hu ⟨by omega, by omega⟩ ⟨by omega, by omega⟩ (bdk (by omega)) ?_
    rw [n0, Int.toNat_natCast, n1, n2]
    refine ⟨fun q => by omega, fun _ => ⟨hb6, fun q => ih (i + 1) (by omega) _ (hI.no q), fun q => ⟨hb6, ⟨by omega, by omega⟩, hb6, fun w3 e3 => ?_⟩⟩⟩
    exact ih (i + 1) (by omega) _ (hI.ys q hi5 (by omega) (tb6 hB.bx) e3 (by show _ = (fun z => wrp (z + y) (m 0)) (gI w (b + 6) i); rw [f2]) (bd_wrp ⟨by omega, by omega⟩ ⟨by omega, by omega⟩))
theorem l192_2 {w : PW} {Q : PO → PW → Prop} {b : Nat} {m : Row} {u : Int} (hs : Sh w) (hB : BR w b m) (hu : bd u) (h : ∀ w2, NtI (fun z => m 0 - 1 - z) m w w2 (b + 5 + 1) u (m 5).toNat → Q (.inl none) w2) : ∀ k i : Nat, i + k = (m 5).toNat → ∀ w', NtI (fun z => m 0 - 1 - z) m w w' (b + 5 + 1) u i → pX 192 2 [some (.ref (b + 4)), some (iv u), some (iv (m 0)), some (iv (i : Nat))] [] w' Q := by
  have a0 := bx_lt hB.bx
  have h5 := hB.ok.n
  have h0 := hB.ok.s
  intro k
  induction k with
  | zero =>
    intro i hi w' hI
    have n0 : gI w' (b + 4) 0 = m 5 := by rw [gI_cell (hI.2.1 (b + 4) (by omega))]; exact hB.n
    refine v192_2 hI.1 hB.bx hu ⟨by omega, by omega⟩ (bdk (by omega)) ?_
    rw [n0]
    refine ⟨fun _ => ?_, fun q => by omega⟩
    rw [show i = (m 5).toNat from by omega] at hI
    exact h w' hI
  | succ k ih =>
    intro i hi w' hI
    have hi5 : (i : Int) < m 5 := by omega
    obtain ⟨f1, f2, f3⟩ := hB.N hi5
    obtain ⟨g1, g2, g3⟩ := hB.ok.N hi5
    have n0 : gI w' (b + 4) 0 = m 5 := by rw [gI_cell (hI.2.1 (b + 4) (by omega))]; exact hB.n
    have n1 : gI w' (b + 5) i = rN m i 0 := by rw [gI_cell (hI.2.1 (b + 5) (by omega))]; exact f1
    have n2 : gI w' (b + 6) i = rN m i 1 := by
      have := hI.old hi5
      show gI w' (b + 5 + 1) i = _
      rw [this]
      exact f2
    have hb6 : 0 ≤ (i : Int) ∧ (i : Int) < 60 := ⟨by omega, by omega⟩
    refine v192_2 hI.1 hB.bx hu ⟨by omega, by omega⟩ (bdk (by omega)) ?_
    rw [n0, Int.toNat_natCast, n1, n2]
    refine ⟨fun q => by omega, fun _ => ⟨hb6, fun q => ih (i + 1) (by omega) _ (hI.no q), fun q => ⟨hb6, hb6, fun w3 e3 => ?_⟩⟩⟩
    exact ih (i + 1) (by omega) _ (hI.ys q hi5 (by omega) (tb6 hB.bx) e3 (by show _ = (fun z => m 0 - 1 - z) (gI w (b + 6) i); rw [f2]) ⟨by omega, by omega⟩)
theorem l183_2 {w : PW} {Q : PO → PW → Prop} {b : Nat} {m : Row} {u y : Int} (hs : Sh w) (hB : BR w b m) (hu : bd u) (hy : -23 ≤ y ∧ y ≤ 23) (h0 : ¬ (∀ i : Nat, (i : Int) < m 5 → rN m i 0 = u → 0 ≤ rN m i 2 + y ∧ rN m i 2 + y < 24) → Q (.inl (some (iv 0))) w) (h : (∀ i : Nat, (i : Int) < m 5 → rN m i 0 = u → 0 ≤ rN m i 2 + y ∧ rN m i 2 + y < 24) → Q (.inl (some (iv 1))) w) : ∀ k i : Nat, i + k = (m 5).toNat → (∀ j : Nat, j < i → rN m j 0 = u → 0 ≤ rN m j 2 + y ∧ rN m j 2 + y < 24) → pX 183 2 [some (.ref (b + 4)), some (iv u), some (iv y), some (iv (i : Nat))] [] w Q := by
  have h5 := hB.ok.n
  intro k
  induction k with
  | zero =>
    intro i hi hI
    refine v183_2 hs hB.bx hu ⟨by omega, by omega⟩ (bdk (by omega)) ?_
    rw [hB.n]
    exact ⟨fun _ => h (fun j hj => hI j (by omega)), fun q => by omega⟩
  | succ k ih =>
    intro i hi hI
    have hi5 : (i : Int) < m 5 := by omega
    obtain ⟨f1, f2, f3⟩ := hB.N hi5
    obtain ⟨g1, g2, g3⟩ := hB.ok.N hi5
    have hb6 : 0 ≤ (i : Int) ∧ (i : Int) < 60 := ⟨by omega, by omega⟩
    have hn : (rN m i 0 = u → 0 ≤ rN m i 2 + y ∧ rN m i 2 + y < 24) → _ := fun q => ih (i + 1) (by omega) (fun j hj => by
      by_cases e : j = i
      · subst e; exact q
      · exact hI j (by omega))
    refine v183_2 hs hB.bx hu ⟨by omega, by omega⟩ (bdk (by omega)) ?_
    rw [hB.n, Int.toNat_natCast, f1, f3]
    exact ⟨fun q => by omega, fun _ => ⟨hb6, fun q => hn (fun z => absurd z q), fun q => ⟨hb6, ⟨by omega, by omega⟩, fun q2 => h0 (fun z => by have := z i hi5 q; omega), fun q2 => ⟨hb6, ⟨by omega, by omega⟩, fun q3 => hn (fun _ => ⟨q2, q3⟩), fun q3 => h0 (fun z => by have := z i hi5 q; omega)⟩⟩⟩⟩
theorem NtI.fin {f : Int → Int} {w w' : PW} {b c : Nat} {m : Row} {u : Int} (hB : BR w b m) (hc : c = 1 ∨ c = 2) (h : NtI f m w w' (b + 5 + c) u (m 5).toNat) (hf : ∀ i : Nat, (i : Int) < m 5 → rN m i 0 = u → 0 ≤ f (rN m i c) ∧ f (rN m i c) < if c = 1 then m 0 else 24) : BR w' b (rSetN m u c f) := by
  refine hB.setN hc h.2.1 hf (fun i hi => ?_)
  obtain ⟨f1, f2, f3⟩ := hB.N hi
  have e : gI w (b + 5 + c) i = rN m i c := by rcases hc with rfl | rfl <;> assumption
  rw [h.2.2 i hi, e]
  by_cases q : rN m i 0 = u
  · rw [if_pos q, if_pos ⟨by omega, q⟩]
  · rw [if_neg q, if_neg (fun z => q z.2)]
theorem c183 {w : PW} {Q : PO → PW → Prop} {b : Nat} {m : Row} {u y : Int} (hs : Sh w) (hB : BR w b m) (hu : bd u) (hy : -23 ≤ y ∧ y ≤ 23) (h0 : ¬ (∀ i : Nat, (i : Int) < m 5 → rN m i 0 = u → 0 ≤ rN m i 2 + y ∧ rN m i 2 + y < 24) → Q (.inl (some (iv 0))) w) (h1 : (∀ i : Nat, (i : Int) < m 5 → rN m i 0 = u → 0 ≤ rN m i 2 + y ∧ rN m i 2 + y < 24) → Q (.inl (some (iv 1))) w) : pC 183 [.ref (b + 4), iv u, iv y] w Q :=
  e183 hs hB.bx hu ⟨by omega, by omega⟩ (l183_2 hs hB hu hy h0 h1 (m 5).toNat 0 (Nat.zero_add _) (fun j hj => absurd hj (Nat.not_lt_zero j)))
theorem c184 {w : PW} {Q : PO → PW → Prop} {b : Nat} {m : Row} {u y : Int} (hs : Sh w) (hB : BR w b m) (hu : bd u) (hy : -23 ≤ y ∧ y ≤ 23) (hr : ∀ i : Nat, (i : Int) < m 5 → rN m i 0 = u → 0 ≤ rN m i 2 + y ∧ rN m i 2 + y < 24) (h : ∀ w2, Sh w2 → BR w2 b (rSetN m u 2 (fun z => z + y)) → (∀ c, c ≠ b + 7 → w2.2.2 c = w.2.2 c) → Q (.inl none) w2) : pC 184 [.ref (b + 4), iv u, iv y] w Q :=
  e184 hs hB.bx hu ⟨by omega, by omega⟩ (l184_2 hs hB hu hy (fun w2 hI => h w2 hI.1 (hI.fin hB (Or.inr rfl) hr) hI.2.1) _ 0 (Nat.zero_add _) w (NtI.z hs))
theorem wrp_bd {z y S : Int} (h : 0 ≤ z ∧ z < S) (hy : 0 ≤ y ∧ y < S) : 0 ≤ wrp (z + y) S ∧ wrp (z + y) S < S := by
  unfold wrp
  split <;> omega
theorem c187 {w : PW} {Q : PO → PW → Prop} {b : Nat} {m : Row} {u y : Int} (hs : Sh w) (hB : BR w b m) (hu : bd u) (hy : 0 ≤ y ∧ y < m 0) (h : ∀ w2, Sh w2 → BR w2 b (rSetN m u 1 (fun z => wrp (z + y) (m 0))) → (∀ c, c ≠ b + 6 → w2.2.2 c = w.2.2 c) → Q (.inl none) w2) : pC 187 [.ref (b + 4), iv u, iv y, iv (m 0)] w Q := by
  have h0 := hB.ok.s
  exact e187 hs hB.bx hu ⟨by omega, by omega⟩ ⟨by omega, by omega⟩ (l187_3 hs hB hu hy (fun w2 hI => h w2 hI.1 (hI.fin hB (Or.inl rfl) (fun i hi _ => wrp_bd (hB.ok.N hi).2.1 hy)) hI.2.1) _ 0 (Nat.zero_add _) w (NtI.z hs))
theorem c192 {w : PW} {Q : PO → PW → Prop} {b : Nat} {m : Row} {u : Int} (hs : Sh w) (hB : BR w b m) (hu : bd u) (h : ∀ w2, Sh w2 → BR w2 b (rSetN m u 1 (fun z => m 0 - 1 - z)) → (∀ c, c ≠ b + 6 → w2.2.2 c = w.2.2 c) → Q (.inl none) w2) : pC 192 [.ref (b + 4), iv u, iv (m 0)] w Q := by
  have h0 := hB.ok.s
  exact e192 hs hB.bx hu ⟨by omega, by omega⟩ (l192_2 hs hB hu (fun w2 hI => h w2 hI.1 (hI.fin hB (Or.inl rfl) (fun i hi _ => by
    have := (hB.ok.N hi).2.1
    rw [if_pos rfl]
    show 0 ≤ m 0 - 1 - rN m i 1 ∧ m 0 - 1 - rN m i 1 < m 0
    omega)) hI.2.1) _ 0 (Nat.zero_add _) w (NtI.z hs))

