/-! THE READER: what comes into a text, what is loaded; the class -/
/-! 10: PinBarrel.append(J)I -/
theorem b10 : mB 10 = cX8_append := rfl
theorem r10 : mR 10 = (some .int) := rfl
theorem p10 (a b : Nat) : phi 10 a ≤ phi 10 b := Nat.le_refl 0
theorem d10_0 : decode cX8_append 0 = .ok (.aload_n 0, 1) := by decide +kernel
theorem d10_1 : decode cX8_append 1 = .ok (.getfield 37, 3) := by decide +kernel
theorem d10_4 : decode cX8_append 4 = .ok (.lload_n 1, 1) := by decide +kernel
theorem d10_5 : decode cX8_append 5 = .ok (.invokevirtual 62, 3) := by decide +kernel
theorem d10_8 : decode cX8_append 8 = .ok (.ifCond .eq 13, 3) := by decide +kernel
theorem d10_11 : decode cX8_append 11 = .ok (.aload_n 0, 1) := by decide +kernel
theorem d10_12 : decode cX8_append 12 = .ok (.getfield 37, 3) := by decide +kernel
theorem d10_15 : decode cX8_append 15 = .ok (.getfield 66, 3) := by decide +kernel
theorem d10_18 : decode cX8_append 18 = .ok (.goto 5, 3) := by decide +kernel
theorem d10_21 : decode cX8_append 21 = .ok (.bipush (-2), 2) := by decide +kernel
theorem d10_23 : decode cX8_append 23 = .ok (.ireturn, 1) := by decide +kernel
theorem v10_0 {w : PW} {Q : PO → PW → Prop} {y1 : Int64} (hs : Sh w)  (h : pC 9 [.ref 135, .long y1] w (kI fun u2 w1 => Sh w1 ∧ (u2 = 0 → Q (.inl (some (iv ((-2))))) w1) ∧ (u2 ≠ 0 → Q (.inl (some (iv (gI w1 135 1)))) w1))) : pX 10 0 [some (.ref 0), some (.long y1), none] [] w Q :=
  w_f b10 d10_0 rfl rfl rfl <| w_gr b10 d10_1 rfl rfl hs (tlt 0 rfl) tbC_0 rfl (by decide) <| w_f b10 d10_4 rfl rfl rfl <| w_c b10 d10_5 rfl (pcl_v (n := 1) rfl rfl rfl (by decide +kernel) (sh_isOb hs (tlt 135 rfl) tbC_135) rfl rfl) rfl _ (hK_I fun u2 w1 hbu2 hkw1 => w_ifeq b10 d10_8 rfl rfl (p10 _ _) hbu2 (fun c3 => w_f b10 d10_21 rfl rfl rfl <| w_ri b10 d10_23 r10 (hkw1.2.1 c3)) (fun c3 => w_f b10 d10_11 rfl rfl rfl <| w_gr b10 d10_12 rfl rfl hkw1.1 (tlt 0 rfl) tbC_0 rfl (by decide) <| w_gi b10 d10_15 rfl rfl hkw1.1 (tlt 135 rfl) tbC_135 rfl <| w_j b10 d10_18 rfl (p10 _ _) <| w_ri b10 d10_23 r10 (hkw1.2.2 c3))) h
theorem e10 {w : PW} {Q : PO → PW → Prop} {y1 : Int64} (hs : Sh w)  (h : pC 9 [.ref 135, .long y1] w (kI fun u2 w1 => Sh w1 ∧ (u2 = 0 → Q (.inl (some (iv ((-2))))) w1) ∧ (u2 ≠ 0 → Q (.inl (some (iv (gI w1 135 1)))) w1))) : pC 10 [.ref 0, .long y1] w Q :=
  (pC_in (Nat.le_of_ble_eq_true rfl) rfl Q).mpr (v10_0 hs  h)
def LF (w w2 : PW) : Prop := ∀ c, c ≠ 0 → ¬ (14 ≤ c ∧ c < 27) → c ≠ 135 → w2.2.2 c = w.2.2 c
def LF2 (w w2 : PW) : Prop := ∀ c, ¬ c < 28 → c ≠ 135 → w2.2.2 c = w.2.2 c
theorem c39 {w : PW} {Q : PO → PW → Prop} {l : List Nat} {H : Nat → Row} {n : Nat} (hs : Sh w) (hT : TX w l) (hH : HR w H n) (hE : ∀ kk aa ss, sLoad l = .inl (kk, aa, ss) → ∀ w2, Sh w2 → LF w w2 → TX w2 [] → gI w2 0 8 = kk → gI w2 0 9 = (ss : Nat) → Q (rI (-100 - (aa : Nat))) w2) (hV : ∀ m2, sLoad l = .inr m2 → ∀ w2, Sh w2 → LF2 w w2 → TX w2 [] → gI w2 0 8 = 0 → gI w2 0 9 = -1 → BR w2 1 m2 → (∀ G, HR w2 G 0) → Q (rI (m2 5)) w2) : pC 39 [.ref 0] w Q := by
  have b14 : bx 14 := bxc 14 rfl
  have nm : bd (-1) := ⟨by decide, by decide⟩
  refine e39 hs (c34 hs b14 hT (fun kk aa ss e w1 p1 s1 R1 F1 => kI_iv bd0 ⟨s1, fun w3 e3 w4 e4 => ⟨fun z => absurd rfl z, fun _ w6 e6 => ?_⟩⟩) (fun m1 e w1 p1 ss s1 R1 b1 F1 => kI_iv ⟨by decide, by decide⟩ ⟨s1, fun w3 e3 w4 e4 => ⟨fun _ w6 e6 => ?_, fun z => absurd z (by decide)⟩⟩))
  · obtain ⟨s3, g3, -, k3⟩ := stI e3 s1 (by omega) (slt_o tbC_135 rfl) bd0
    rw [g3, if_neg (by omega), R1.2.1] at e4
    obtain ⟨s4, g4, -, k4⟩ := stI e4 s3 (by omega) (slt_o tbC_0 rfl) (by have := bd_gI w1 135 2; rw [R1.2.1] at this; exact this)
    rw [g4, if_neg (by omega), g3, if_neg (by omega), R1.2.2.2.1] at e6
    obtain ⟨s6, g6, -, k6⟩ := stI e6 s4 (by omega) (slt_o tbC_0 rfl) (by have := bd_gI w1 135 4; rw [R1.2.2.2.1] at this; exact this)
    rw [g6, if_neg (by omega), g4, if_neg (by omega), g3, if_neg (by omega), R1.2.2.1]
    refine hE kk aa ss e w6 s6 (fun c h1 h2 h3 => by rw [k6 c h1, k4 c h1, k3 c h3, F1 c h3 (by omega)]) ⟨?_, Nat.zero_le _, fun k hk => absurd hk (Nat.not_lt_zero k)⟩ ?_ ?_
    · rw [g6, if_neg (by omega), g4, if_neg (by omega), g3, if_pos ⟨rfl, rfl⟩]; rfl
    · rw [g6, if_neg (by omega), g4, if_pos ⟨rfl, rfl⟩]
    · rw [g6, if_pos ⟨rfl, rfl⟩]
  · obtain ⟨s3, g3, -, k3⟩ := stI e3 s1 (by omega) (slt_o tbC_135 rfl) bd0
    rw [g3, if_neg (by omega), R1.2.1] at e4
    obtain ⟨s4, g4, -, k4⟩ := stI e4 s3 (by omega) (slt_o tbC_0 rfl) bd0
    obtain ⟨s6, g6, -, k6⟩ := stI e6 s4 (by omega) (slt_o tbC_0 rfl) nm
    have b6 : BR w6 14 m1 := b1.cells (fun k hk => by rw [k6 _ (by omega), k4 _ (by omega), k3 _ (by omega)])
    have H6 : HR w6 H n := hH.cells (fun c hc => by rw [k6 _ (by omega), k4 _ (by omega), k3 _ (by omega), F1 c (by omega) (by omega)])
    refine c37 s6 bx1 b6 (by omega) (fun w7 s7 b7 k7 => ⟨s7, ?_⟩)
    have H7 : HR w7 H n := H6.cells (fun c hc => k7 c (by omega))
    refine c38 s7 H7 (fun w9 s9 H9 k9 => ⟨s9, ?_⟩)
    have b9 : BR w9 1 m1 := b7.cells (fun k hk => k9 _ (by omega))
    have v : ∀ c k, ¬ (1 ≤ c ∧ c < 14) → c ≠ 27 → gI w9 c k = gI w6 c k := fun c k h1 h2 => by rw [gI_cell (k9 c h2), gI_cell (k7 c (by omega))]
    rw [b9.n]
    refine hV m1 e w9 s9 (fun c h1 h2 => by rw [k9 c (by omega), k7 c (by omega), k6 c (by omega), k4 c (by omega), k3 c h2, F1 c h2 (by omega)]) ⟨?_, Nat.zero_le _, fun k hk => absurd hk (Nat.not_lt_zero k)⟩ ?_ ?_ b9 H9
    · rw [v _ _ (by omega) (by omega), g6, if_neg (by omega), g4, if_neg (by omega), g3, if_pos ⟨rfl, rfl⟩]; rfl
    · rw [v _ _ (by omega) (by omega), g6, if_neg (by omega), g4, if_pos ⟨rfl, rfl⟩]
    · rw [v _ _ (by omega) (by omega), g6, if_pos ⟨rfl, rfl⟩]
def bN (y : Int64) (k : Nat) : Nat := (lUsh y (8 * k : Nat) &&& 255).toBitVec.toNat
theorem bN_lt (y : Int64) (k : Nat) : bN y k < 256 := by
  unfold bN
  rw [Int64.toBitVec_and, BitVec.toNat_and]
  have : (lUsh y (8 * k : Nat)).toBitVec.toNat &&& (255 : Int64).toBitVec.toNat ≤ (255 : Int64).toBitVec.toNat := Nat.and_le_right
  have e : (255 : Int64).toBitVec.toNat = 255 := by decide
  omega
theorem bN_l2I (y : Int64) (k : Nat) : l2I (lUsh y (8 * k : Nat) &&& 255) = (bN y k : Nat) := by
  have h := bN_lt y k
  refine tI_ext (bd_toInt _) (bdk (by omega)) (fun i hi => ?_)
  rw [tI_l2I hi, tI_nat hi]
  rfl
theorem bN_cmp (y : Int64) (k : Nat) : lCmp (lUsh y (8 * k : Nat) &&& 255) 0 = 0 ↔ bN y k = 0 := by
  rw [lCmp_eq]
  constructor
  · intro h
    unfold bN
    rw [h]
    rfl
  · intro h
    refine Int64.toBitVec_inj.mp (BitVec.eq_of_toNat_eq ?_)
    exact h
def bDn (y : Int64) : Nat → List Nat
  | 0 => []
  | n + 1 => (if bN y n = 0 then [] else [bN y n]) ++ bDn y n
theorem bDn_len (y : Int64) : ∀ n, (bDn y n).length ≤ n := by
  intro n
  induction n with
  | zero => exact Nat.le_refl _
  | succ n ih =>
    show ((if bN y n = 0 then [] else [bN y n]) ++ bDn y n).length ≤ n + 1
    rw [List.length_append]
    split
    · show 0 + _ ≤ _
      omega
    · show 1 + _ ≤ _
      omega
theorem TX.put {w w2 w3 : PW} {l : List Nat} {z : Nat} (h : TX w l) (hs : Sh w) (h7 : l.length < 700) (hz : z < 256) (e2 : w2 = sI w 136 l.length z) (e3 : w3 = sI w2 135 1 (gI w2 135 1 + 1)) : Sh w3 ∧ TX w3 (l ++ [z]) ∧ (∀ c, c ≠ 135 → c ≠ 136 → w3.2.2 c = w.2.2 c) := by
  obtain ⟨h1, h2, h3⟩ := h
  obtain ⟨s2, g2, -, k2⟩ := stI e2 hs (by omega) (slt_a tbC_136) (bdk (by omega))
  rw [g2, if_neg (by omega), h1] at e3
  obtain ⟨s3, g3, -, k3⟩ := stI e3 s2 (by omega) (slt_o tbC_135 rfl) ⟨by omega, by omega⟩
  refine ⟨s3, ⟨?_, ?_, fun k hk => ?_⟩, fun c hc hc2 => by rw [k3 c hc, k2 c hc2]⟩
  · rw [g3, if_pos ⟨rfl, rfl⟩, List.length_append]; rfl
  · rw [List.length_append]; exact h7
  · rw [List.length_append] at hk
    have hk2 : k < l.length + 1 := hk
    rw [g3, if_neg (by omega), g2]
    by_cases q : k = l.length
    · subst q
      rw [if_pos ⟨rfl, rfl⟩, gtD_e]
      exact ⟨rfl, hz⟩
    · rw [if_neg (fun x => q x.2), gtD_l (by omega)]
      exact h3 k (by omega)
section RTX
variable {w : PW} {Q : PO → PW → Prop} {l : List Nat} {y : Int64}
theorem l9_51 {x3 : Int} (hx3 : bd x3) (hl : (l ++ bDn y 8).length ≤ 700) (h : ∀ w2, Sh w2 → TX w2 (l ++ bDn y 8) → (∀ c, c ≠ 135 → c ≠ 136 → w2.2.2 c = w.2.2 c) → Q (rI 1) w2) : ∀ (n : Nat) (w1 : PW) (t : List Nat) (o5 : Option Value), n ≤ 8 → Sh w1 → TX w1 t → t ++ bDn y n = l ++ bDn y 8 → (∀ c, c ≠ 135 → c ≠ 136 → w1.2.2 c = w.2.2 c) → pc2 o5 = false → pX 9 51 [some (.ref 135), some (.long y), none, some (iv x3), some (iv (8 * (n : Int) - 8)), o5] [] w1 Q := by
  intro n
  induction n with
  | zero =>
    intro w1 t o5 hn s1 hT ht hF ho
    rw [show bDn y 0 = [] from rfl, List.append_nil] at ht
    rw [ht] at hT
    exact v9_51 s1 hx3 ⟨by omega, by omega⟩ ho ⟨fun _ => h w1 s1 hT hF, fun q => by omega⟩
  | succ n ih =>
    intro w1 t o5 hn s1 hT ht hF ho
    rw [show (8 * ((n + 1 : Nat) : Int) - 8) = ((8 * n : Nat) : Int) from by omega]
    refine v9_51 s1 hx3 (bdk (by omega)) ho ⟨fun q => by omega, fun _ => ?_⟩
    rw [bN_l2I, show ((8 * n : Nat) : Int) + (-8) = 8 * (n : Int) - 8 from by omega]
    have hb := bN_lt y n
    have ho2 : pc2 (some (iv (bN y n : Nat))) = false := rfl
    have hbl : ∀ k, bDn y (k + 1) = (if bN y k = 0 then [] else [bN y k]) ++ bDn y k := fun _ => rfl
    rw [hbl n] at ht
    refine ⟨fun q => ?_, fun q => ?_⟩
    · rw [if_pos (by omega), List.nil_append] at ht
      exact ih w1 t _ (by omega) s1 hT ht hF ho2
    · rw [if_neg (by omega)] at ht
      have hl2 : t.length + 1 ≤ 700 := by
        have := congrArg List.length ht
        rw [List.length_append, List.length_append] at this
        have h1 : [bN y n].length = 1 := rfl
        omega
      rw [hT.1, i2C_id _ hb, Int.toNat_natCast]
      refine ⟨fun q2 => by omega, fun _ => ⟨⟨by omega, by omega⟩, nar_c _ hb, fun w4 e4 w5 e5 => ?_⟩⟩
      obtain ⟨s5, T5, F5⟩ := hT.put s1 (by omega) hb e4 e5
      exact ih w5 (t ++ [bN y n]) _ (by omega) s5 T5 (by rw [List.append_assoc]; exact ht) (fun c hc hc2 => by rw [F5 c hc hc2, hF c hc hc2]) ho2
theorem l9_6 (hs : Sh w) (hT : TX w l) (h0 : ¬ (l ++ bDn y 8).length ≤ 700 → Q (rI 0) w) (h : (l ++ bDn y 8).length ≤ 700 → ∀ w2, Sh w2 → TX w2 (l ++ bDn y 8) → (∀ c, c ≠ 135 → c ≠ 136 → w2.2.2 c = w.2.2 c) → Q (rI 1) w2) : ∀ (n many : Nat) (o5 : Option Value), n ≤ 8 → many + (bDn y n).length = (bDn y 8).length → pc2 o5 = false → pX 9 6 [some (.ref 135), some (.long y), none, some (iv (many : Nat)), some (iv (8 * (n : Int) - 8)), o5] [] w Q := by
  have h8 := bDn_len y 8
  have hl := hT.2.1
  intro n
  induction n with
  | zero =>
    intro many o5 hn hm ho
    have hm2 : many = (bDn y 8).length := hm
    refine v9_6 hs (bdk (by omega)) ⟨by omega, by omega⟩ ho ⟨fun _ => ?_, fun q => by omega⟩
    rw [List.length_append] at h0 h
    rw [hT.1]
    refine ⟨⟨by omega, by omega⟩, fun q => ?_, fun q => h0 (by omega)⟩
    have := l9_51 (w := w) (l := l) (y := y) (x3 := (many : Nat)) (Q := Q) (bdk (by omega)) (by rw [List.length_append]; omega) (h (by omega)) 8 w l o5 (Nat.le_refl _) hs hT rfl (fun _ _ _ => rfl) ho
    exact this
  | succ n ih =>
    intro many o5 hn hm ho
    rw [show (8 * ((n + 1 : Nat) : Int) - 8) = ((8 * n : Nat) : Int) from by omega]
    have hbl : ∀ k, bDn y (k + 1) = (if bN y k = 0 then [] else [bN y k]) ++ bDn y k := fun _ => rfl
    rw [hbl n, List.length_append] at hm
    refine v9_6 hs (bdk (by omega)) (bdk (by omega)) ho ⟨fun q => by omega, fun _ => ?_⟩
    rw [bN_cmp, show ((8 * n : Nat) : Int) + (-8) = 8 * (n : Int) - 8 from by omega]
    refine ⟨fun q => ?_, fun q => ?_⟩
    · rw [if_pos q] at hm
      have h1 : ([] : List Nat).length = 0 := rfl
      exact ih many o5 (by omega) (by omega) ho
    · rw [if_neg (fun z => q ((bN_cmp y n).mpr z))] at hm
      have h1 : [bN y n].length = 1 := rfl
      exact ih (many + 1) o5 (by omega) (by omega) ho
theorem c10 (hs : Sh w) (hT : TX w l) (h0 : ¬ (l ++ bDn y 8).length ≤ 700 → Q (rI (-2)) w) (h : (l ++ bDn y 8).length ≤ 700 → ∀ w2, Sh w2 → TX w2 (l ++ bDn y 8) → (∀ c, c ≠ 135 → c ≠ 136 → w2.2.2 c = w.2.2 c) → Q (rI ((l ++ bDn y 8).length : Nat)) w2) : pC 10 [.ref 0, .long y] w Q := by
  refine e10 hs (e9 hs ?_)
  have := l9_6 (y := y) (Q := kI fun u2 w1 => Sh w1 ∧ (u2 = 0 → Q (.inl (some (iv (-2)))) w1) ∧ (u2 ≠ 0 → Q (.inl (some (iv (gI w1 135 1)))) w1)) hs hT (fun q => kI_iv bd0 ⟨hs, fun _ => h0 q, fun z => absurd rfl z⟩) (fun q w2 s2 T2 F2 => kI_iv ⟨by decide, by decide⟩ ⟨s2, fun z => absurd z (by decide), fun _ => by rw [T2.1]; exact h q w2 s2 T2 F2⟩) 8 0 none (Nat.le_refl _) (Nat.zero_add _) rfl
  exact this
end RTX

