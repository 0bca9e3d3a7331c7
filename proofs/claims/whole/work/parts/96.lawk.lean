/-! THE LAW: wrappers, comparisons -/
/-- what a wrapper tells: the code, the value in `out` -/
def WQ (w : PW) (rm : PO) (C : PW → Prop) : PO → PW → Prop := fun o w3 => o = .inl (some (iv (moE rm))) ∧ Sh w3 ∧ fC w w3 ∧ C w3 ∧ ∀ z, rm = rI z → gL w3 180 0 = i2L (Int32.ofInt z).toInt
/-- of a truth value -/
def WZ (w : PW) (rm : PO) (C : PW → Prop) : PO → PW → Prop := fun o w3 => o = .inl (some (iv (moE rm))) ∧ Sh w3 ∧ fC w w3 ∧ C w3 ∧ ∀ z, rm = rI z → gL w3 180 0 = if (Int32.ofInt z).toInt = 0 then 0 else 1
def swp : PO → PO
  | .inl o => .inl o
  | .inr e => .inr (3 - e)
def is1 (r : PO) : Prop := (∃ z, r = rI z) ∨ r = .inr 1
def is2 (r : PO) : Prop := (∃ z, r = rI z) ∨ r = .inr 2
def is12 (r : PO) : Prop := (∃ z, r = rI z) ∨ r = .inr 1 ∨ r = .inr 2
theorem is1_I {z : Int} : is1 (rI z) := Or.inl ⟨z, rfl⟩
theorem is2_I {z : Int} : is2 (rI z) := Or.inl ⟨z, rfl⟩
theorem is12_I {z : Int} : is12 (rI z) := Or.inl ⟨z, rfl⟩
theorem is1_if {P : Prop} [Decidable P] {r : PO} (h : is1 r) : is1 (if P then r else .inr 1) := by
  split
  · exact h
  · exact Or.inr rfl
theorem is2_if {P : Prop} [Decidable P] {r : PO} (h : is2 r) : is2 (if P then r else .inr 2) := by
  split
  · exact h
  · exact Or.inr rfl
theorem is12_1 {P : Prop} [Decidable P] {r : PO} (h : is12 r) : is12 (if P then r else .inr 1) := by
  split
  · exact h
  · exact Or.inr (Or.inl rfl)
theorem is12_2 {P : Prop} [Decidable P] {r : PO} (h : is12 r) : is12 (if P then r else .inr 2) := by
  split
  · exact h
  · exact Or.inr (Or.inr rfl)
theorem fst_if {α : Type} {P : Prop} [Decidable P] {E : Nat} {r : PO × Option α} : (aP P E r).1 = if P then r.1 else .inr E := by
  unfold aP; split <;> rfl
theorem fst_iq {α : Type} {P : Prop} [Decidable P] {r s : PO × Option α} : (aQ P r s).1 = if P then r.1 else s.1 := by
  unfold aQ; split <;> rfl
theorem is1_a {α : Type} {P : Prop} [Decidable P] {r : PO × Option α} (h : is1 r.1) : is1 (aP P 1 r).1 := by rw [fst_if]; exact is1_if h
theorem is2_a {α : Type} {P : Prop} [Decidable P] {r : PO × Option α} (h : is2 r.1) : is2 (aP P 2 r).1 := by rw [fst_if]; exact is2_if h
theorem is12_a1 {α : Type} {P : Prop} [Decidable P] {r : PO × Option α} (h : is12 r.1) : is12 (aP P 1 r).1 := by rw [fst_if]; exact is12_1 h
theorem is12_a2 {α : Type} {P : Prop} [Decidable P] {r : PO × Option α} (h : is12 r.1) : is12 (aP P 2 r).1 := by rw [fst_if]; exact is12_2 h
theorem is1_q {α : Type} {P : Prop} [Decidable P] {r s : PO × Option α} (h : is1 r.1) (h2 : is1 s.1) : is1 (aQ P r s).1 := by
  rw [fst_iq]
  split
  · exact h
  · exact h2
section LWK
variable {w w2 : PW} {Q : PO → PW → Prop} {r : PO} {C : PW → Prop} {M : Nat} {a : List Value}
/-- `out` takes a number -/
theorem outC {x : Int64} (hs : Sh w2) (hF : fC w w2) (hC : ∀ w3, (∀ c, c ≠ 180 → w3.2.2 c = w2.2.2 c) → C w3) {w3 : PW} (e : w3 = sL w2 180 0 x) : Sh w3 ∧ fC w w3 ∧ C w3 ∧ gL w3 180 0 = x := by
  obtain ⟨s3, g3, -, k3⟩ := stL e hs (by omega) tbC_180
  exact ⟨s3, fun c h1 h2 h3 => (k3 c h2).trans (hF c h1 h2 h3), hC w3 k3, by rw [g3, if_pos ⟨rfl, rfl⟩]⟩
def CK (w : PW) (r : PO) (C : PW → Prop) : PO → PW → Prop := fun o w2 => o = r ∧ Sh w2 ∧ fC w w2 ∧ ∀ w3, (∀ c, c ≠ 180 → w3.2.2 c = w2.2.2 c) → C w3
theorem wT1 (h : pC M a w (CK w r C)) (hr : is1 r) : pC M a w (kH (kI fun u2 w1 => Sh w1 ∧ ∀ w3 : PW, w3 = sL w1 180 0 (i2L u2) → WQ w r C (.inl (some (iv 0))) w3) (fun E w4 => (E = 1 ∧ Sh w4 ∧ WQ w r C (.inl (some (iv 1))) w4))) := by
  refine pC_mono h (fun o w2 ⟨ho, hs, hF, hC⟩ => ?_)
  subst ho
  rcases hr with ⟨z, rfl⟩ | rfl
  · refine ⟨hs, fun w3 e => ?_⟩
    obtain ⟨s3, f3, c3, g3⟩ := outC hs hF hC e
    refine ⟨rfl, s3, f3, c3, fun z2 e2 => ?_⟩
    rw [g3]
    have e3 : iv z = iv z2 := Option.some.inj (Sum.inl.inj e2)
    rw [show Int32.ofInt z = Int32.ofInt z2 from Value.int.inj e3]
  · exact ⟨rfl, hs, rfl, hs, hF, hC w2 (fun _ _ => rfl), fun z e2 => by cases e2⟩
theorem wT3 (h : pC M a w (CK w r C)) (hr : is12 r) : pC M a w (kH (kI fun u2 w1 => Sh w1 ∧ ∀ w3 : PW, w3 = sL w1 180 0 (i2L u2) → WQ w r C (.inl (some (iv 0))) w3) (fun E w4 => (E = 1 ∧ Sh w4 ∧ WQ w r C (.inl (some (iv 1))) w4) ∨ (E = 2 ∧ Sh w4 ∧ WQ w r C (.inl (some (iv 2))) w4))) := by
  refine pC_mono h (fun o w2 ⟨ho, hs, hF, hC⟩ => ?_)
  subst ho
  rcases hr with ⟨z, rfl⟩ | rfl | rfl
  · refine ⟨hs, fun w3 e => ?_⟩
    obtain ⟨s3, f3, c3, g3⟩ := outC hs hF hC e
    refine ⟨rfl, s3, f3, c3, fun z2 e2 => ?_⟩
    rw [g3]
    have e3 : iv z = iv z2 := Option.some.inj (Sum.inl.inj e2)
    rw [show Int32.ofInt z = Int32.ofInt z2 from Value.int.inj e3]
  · exact Or.inl ⟨rfl, hs, rfl, hs, hF, hC w2 (fun _ _ => rfl), fun z e2 => by cases e2⟩
  · exact Or.inr ⟨rfl, hs, rfl, hs, hF, hC w2 (fun _ _ => rfl), fun z e2 => by cases e2⟩
/-- the other way round: an index is told first -/
theorem wT2 (h : pC M a w (CK w r C)) (hr : is12 r) : pC M a w (kH (kI fun u2 w1 => Sh w1 ∧ ∀ w3 : PW, w3 = sL w1 180 0 (i2L u2) → WQ w (swp r) C (.inl (some (iv 0))) w3) (fun E w4 => (E = 1 ∧ Sh w4 ∧ WQ w (swp r) C (.inl (some (iv 2))) w4) ∨ (E = 2 ∧ Sh w4 ∧ WQ w (swp r) C (.inl (some (iv 1))) w4))) := by
  refine pC_mono h (fun o w2 ⟨ho, hs, hF, hC⟩ => ?_)
  subst ho
  rcases hr with ⟨z, rfl⟩ | rfl | rfl
  · refine ⟨hs, fun w3 e => ?_⟩
    obtain ⟨s3, f3, c3, g3⟩ := outC hs hF hC e
    refine ⟨rfl, s3, f3, c3, fun z2 e2 => ?_⟩
    rw [g3]
    have e3 : iv z = iv z2 := Option.some.inj (Sum.inl.inj e2)
    rw [show Int32.ofInt z = Int32.ofInt z2 from Value.int.inj e3]
  · exact Or.inl ⟨rfl, hs, rfl, hs, hF, hC w2 (fun _ _ => rfl), fun z e2 => by cases e2⟩
  · exact Or.inr ⟨rfl, hs, rfl, hs, hF, hC w2 (fun _ _ => rfl), fun z e2 => by cases e2⟩
theorem wT4 (h : pC M a w (CK w r C)) (hr : is2 r) : pC M a w (kH (kI fun u2 w1 => Sh w1 ∧ ∀ w3 : PW, w3 = sL w1 180 0 (i2L u2) → WQ w (swp r) C (.inl (some (iv 0))) w3) (fun E w4 => (E = 2 ∧ Sh w4 ∧ WQ w (swp r) C (.inl (some (iv 1))) w4))) := by
  refine pC_mono h (fun o w2 ⟨ho, hs, hF, hC⟩ => ?_)
  subst ho
  rcases hr with ⟨z, rfl⟩ | rfl
  · refine ⟨hs, fun w3 e => ?_⟩
    obtain ⟨s3, f3, c3, g3⟩ := outC hs hF hC e
    refine ⟨rfl, s3, f3, c3, fun z2 e2 => ?_⟩
    rw [g3]
    have e3 : iv z = iv z2 := Option.some.inj (Sum.inl.inj e2)
    rw [show Int32.ofInt z = Int32.ofInt z2 from Value.int.inj e3]
  · exact ⟨rfl, hs, rfl, hs, hF, hC w2 (fun _ _ => rfl), fun z e2 => by cases e2⟩
theorem wZ1 (h : pC M a w (CK w r C)) (hr : is1 r) : pC M a w (kH (kI fun u2 w1 => Sh w1 ∧ (u2 = 0 → ∀ w4 : PW, w4 = sL w1 180 0 ((0 : Int64)) → WZ w r C (.inl (some (iv 0))) w4) ∧ (u2 ≠ 0 → ∀ w5 : PW, w5 = sL w1 180 0 ((1 : Int64)) → WZ w r C (.inl (some (iv 0))) w5)) (fun E w6 => (E = 1 ∧ Sh w6 ∧ WZ w r C (.inl (some (iv 1))) w6))) := by
  refine pC_mono h (fun o w2 ⟨ho, hs, hF, hC⟩ => ?_)
  subst ho
  rcases hr with ⟨z, rfl⟩ | rfl
  · refine ⟨hs, fun q w3 e => ?_, fun q w3 e => ?_⟩
    · obtain ⟨s3, f3, c3, g3⟩ := outC hs hF hC e
      refine ⟨rfl, s3, f3, c3, fun z2 e2 => ?_⟩
      have e3 : iv z = iv z2 := Option.some.inj (Sum.inl.inj e2)
      rw [g3, ← Value.int.inj e3, if_pos q]
    · obtain ⟨s3, f3, c3, g3⟩ := outC hs hF hC e
      refine ⟨rfl, s3, f3, c3, fun z2 e2 => ?_⟩
      have e3 : iv z = iv z2 := Option.some.inj (Sum.inl.inj e2)
      rw [g3, ← Value.int.inj e3, if_neg q]
  · exact ⟨rfl, hs, rfl, hs, hF, hC w2 (fun _ _ => rfl), fun z e2 => by cases e2⟩
theorem wZ3 (h : pC M a w (CK w r C)) (hr : is12 r) : pC M a w (kH (kI fun u2 w1 => Sh w1 ∧ (u2 = 0 → ∀ w4 : PW, w4 = sL w1 180 0 ((0 : Int64)) → WZ w r C (.inl (some (iv 0))) w4) ∧ (u2 ≠ 0 → ∀ w5 : PW, w5 = sL w1 180 0 ((1 : Int64)) → WZ w r C (.inl (some (iv 0))) w5)) (fun E w6 => (E = 1 ∧ Sh w6 ∧ WZ w r C (.inl (some (iv 1))) w6) ∨ (E = 2 ∧ Sh w6 ∧ WZ w r C (.inl (some (iv 2))) w6))) := by
  refine pC_mono h (fun o w2 ⟨ho, hs, hF, hC⟩ => ?_)
  subst ho
  rcases hr with ⟨z, rfl⟩ | rfl | rfl
  · refine ⟨hs, fun q w3 e => ?_, fun q w3 e => ?_⟩
    · obtain ⟨s3, f3, c3, g3⟩ := outC hs hF hC e
      refine ⟨rfl, s3, f3, c3, fun z2 e2 => ?_⟩
      have e3 : iv z = iv z2 := Option.some.inj (Sum.inl.inj e2)
      rw [g3, ← Value.int.inj e3, if_pos q]
    · obtain ⟨s3, f3, c3, g3⟩ := outC hs hF hC e
      refine ⟨rfl, s3, f3, c3, fun z2 e2 => ?_⟩
      have e3 : iv z = iv z2 := Option.some.inj (Sum.inl.inj e2)
      rw [g3, ← Value.int.inj e3, if_neg q]
  · exact Or.inl ⟨rfl, hs, rfl, hs, hF, hC w2 (fun _ _ => rfl), fun z e2 => by cases e2⟩
  · exact Or.inr ⟨rfl, hs, rfl, hs, hF, hC w2 (fun _ _ => rfl), fun z e2 => by cases e2⟩
theorem moE_bd (h : is12 r) : bd (moE r) := by
  rcases h with ⟨z, rfl⟩ | rfl | rfl
  · exact bd0
  · exact ⟨by decide, by decide⟩
  · exact ⟨by decide, by decide⟩
theorem is1.up (h : is1 r) : is12 r := h.elim Or.inl (fun z => Or.inr (Or.inl z))
theorem swp12 (h : is12 r) : is12 (swp r) := by
  rcases h with ⟨z, rfl⟩ | rfl | rfl
  · exact Or.inl ⟨z, rfl⟩
  · exact Or.inr (Or.inr rfl)
  · exact Or.inr (Or.inl rfl)
theorem is2.up (h : is2 r) : is12 r := h.elim Or.inl (fun z => Or.inr (Or.inr z))
/-- the model's answer against the wrapper's -/
theorem finQ {N : Int → PW → Prop} {Z : PW → Prop} (hr : is12 r) (hs : Sh w) (t : gI w 169 0 = moE r) (hv : ∀ z, r = rI z → gL w 180 0 = i2L (Int32.ofInt z).toInt) (hN : ∀ u, N u w) : kI (fun u4 w3 => Sh w3 ∧ ((gI w3 169 0) = moE r → (moE r ≠ 0 → N u4 w3) ∧ (moE r = 0 → ((lCmp (gL w3 180 0) (i2L u4)) = 0 → N u4 w3) ∧ ((lCmp (gL w3 180 0) (i2L u4)) ≠ 0 → Z w3))) ∧ ((gI w3 169 0) ≠ moE r → Z w3)) (moV r) w := by
  rcases hr with ⟨z, rfl⟩ | rfl | rfl
  · refine ⟨hs, fun _ => ⟨fun _ => hN _, fun _ => ⟨fun _ => hN _, fun q => absurd (lCmp_eq.mpr (hv z rfl)) q⟩⟩, fun q => absurd t q⟩
  · exact ⟨hs, fun _ => ⟨fun _ => hN _, fun q => absurd q (by decide)⟩, fun q => absurd t q⟩
  · exact ⟨hs, fun _ => ⟨fun _ => hN _, fun q => absurd q (by decide)⟩, fun q => absurd t q⟩
theorem finZ {N : Int → PW → Prop} {Z : PW → Prop} (hr : is12 r) (hs : Sh w) (t : gI w 169 0 = moE r) (hv : ∀ z, r = rI z → gL w 180 0 = if (Int32.ofInt z).toInt = 0 then 0 else 1) (hN : ∀ u, N u w) : kI (fun u4 w3 => Sh w3 ∧ ((gI w3 169 0) = moE r → (moE r ≠ 0 → N u4 w3) ∧ (moE r = 0 → (u4 = 0 → ((lCmp (gL w3 180 0) ((0 : Int64))) = 0 → N u4 w3) ∧ ((lCmp (gL w3 180 0) ((0 : Int64))) ≠ 0 → Z w3)) ∧ (u4 ≠ 0 → ((lCmp (gL w3 180 0) ((1 : Int64))) = 0 → N u4 w3) ∧ ((lCmp (gL w3 180 0) ((1 : Int64))) ≠ 0 → Z w3)))) ∧ ((gI w3 169 0) ≠ moE r → Z w3)) (moV r) w := by
  rcases hr with ⟨z, rfl⟩ | rfl | rfl
  · refine ⟨hs, fun _ => ⟨fun _ => hN _, fun _ => ⟨fun q0 => ⟨fun _ => hN _, fun q => absurd (lCmp_eq.mpr ((hv z rfl).trans (if_pos q0))) q⟩, fun q0 => ⟨fun _ => hN _, fun q => absurd (lCmp_eq.mpr ((hv z rfl).trans (if_neg q0))) q⟩⟩⟩, fun q => absurd t q⟩
  · exact ⟨hs, fun _ => ⟨fun _ => hN _, fun q => absurd q (by decide)⟩, fun q => absurd t q⟩
  · exact ⟨hs, fun _ => ⟨fun _ => hN _, fun q => absurd q (by decide)⟩, fun q => absurd t q⟩
theorem kXI {K : Int → PW → Prop} {u : Int} (hu : bd u) (h : K u w) : kX (kI K) Q (.inl (some (iv u))) w := kI_iv hu h
end LWK
