/-! BOTH SIDES: what is kept between calls -/
/-- the state that class and model hold: the row, what undo brings back, how often, the text that waits, the text written, the rows of snapshots, which are there, the failure of the last load -/
abbrev ST : Type := Row × (Nat → Row) × Nat × List Nat × List Nat × (Nat → Row) × (Nat → Int) × Int × Int
/-- the class's side -/
def CP (w : PW) (m : Row) (H : Nat → Row) (n : Nat) (l L : List Nat) (S : Nat → Row) (K : Nat → Int) (a b : Int) : Prop :=
  BR w 1 m ∧ HR w H n ∧ TX w l ∧ WL w L ∧ (∀ x, x < 2 → gI w 134 x = K x ∧ (K x ≠ 0 → BR w (143 + 13 * x) (S x))) ∧ gI w 0 8 = a ∧ gI w 0 9 = b
/-- the model's side -/
def MP (w : PW) (m : Row) (H : Nat → Row) (n : Nat) (l L : List Nat) (S : Nat → Row) (K : Nat → Int) (a b : Int) : Prop :=
  MR w m ∧ HM w H n ∧ MTx w l ∧ ML w L ∧ (∀ x, x < 2 → gI w 173 x = K x ∧ (K x ≠ 0 → ∀ k, k < 843 → gI w 172 (843 * x + k) = S x k)) ∧ gI w 169 12 = a ∧ gI w 169 15 = b
/-- what is true of the state itself -/
def FP0 (m : Row) (H : Nat → Row) (n : Nat) (L : List Nat) (S : Nat → Row) (K : Nat → Int) : Prop := RFin m ∧ (∀ j, j < n → RFin (H j)) ∧ L.length ≤ 400 ∧ ∀ x, x < 2 → K x ≠ 0 → RFin (S x)
def fC (w w2 : PW) : Prop := ∀ c, 169 ≤ c → c ≠ 180 → c ≠ 181 → w2.2.2 c = w.2.2 c
def fM (w w2 : PW) : Prop := ∀ c, ¬ (169 ≤ c ∧ c ≤ 179) → w2.2.2 c = w.2.2 c
section REL
variable {w w2 w3 : PW} {m : Row} {H : Nat → Row} {n : Nat} {l L : List Nat} {S : Nat → Row} {K : Nat → Int} {a b : Int} {sn : Nat} {sf : Nat → Int32}
theorem fC.rf : fC w w := fun _ _ _ _ => rfl
theorem fC.tr (h1 : fC w w2) (h2 : fC w2 w3) : fC w w3 := fun c hc a b => (h2 c hc a b).trans (h1 c hc a b)
theorem fM.rf : fM w w := fun _ _ => rfl
theorem CP.cells (h : CP w m H n l L S K a b) (hk : ∀ c, c < 169 → w2.2.2 c = w.2.2 c) : CP w2 m H n l L S K a b := by
  obtain ⟨h1, h2, h3, h4, h5, h6, h7⟩ := h
  refine ⟨h1.cells (fun k hk2 => hk _ (by omega)), h2.cells (fun c hc => hk c (by omega)), ⟨by rw [gI_cell (hk 135 (by decide))]; exact h3.1, h3.2.1, fun k hk2 => by rw [gI_cell (hk 136 (by decide))]; exact h3.2.2 k hk2⟩, ⟨by rw [gI_cell (hk 137 (by decide))]; exact h4.1, fun k hk2 => by rw [gI_cell (hk 138 (by decide))]; exact h4.2 k hk2⟩, fun x hx => ⟨by rw [gI_cell (hk 134 (by decide))]; exact (h5 x hx).1, fun q => ((h5 x hx).2 q).cells (fun k hk2 => hk _ (by omega))⟩, by rw [gI_cell (hk 0 (by decide))]; exact h6, by rw [gI_cell (hk 0 (by decide))]; exact h7⟩
theorem CP.km (h : CP w m H n l L S K a b) (hk : fM w w2) : CP w2 m H n l L S K a b := h.cells (fun c hc => hk c (by omega))
theorem MP.cells (h : MP w m H n l L S K a b) (hk : ∀ c, 169 ≤ c → c ≤ 179 → w2.2.2 c = w.2.2 c) : MP w2 m H n l L S K a b := by
  obtain ⟨h1, h2, h3, h4, h5, h6, h7⟩ := h
  have e9 := hk 169 (by decide) (by decide)
  refine ⟨h1.cell (hk 170 (by decide) (by decide)), h2.cells (by rw [gI_cell e9]) (hk 174 (by decide) (by decide)), ⟨by rw [gI_cell e9]; exact h3.1, h3.2.1, fun k hk2 => by rw [gI_cell (hk 175 (by decide) (by decide))]; exact h3.2.2 k hk2⟩, ⟨by rw [gI_cell e9]; exact h4.1, fun k hk2 => by rw [gI_cell (hk 179 (by decide) (by decide))]; exact h4.2 k hk2⟩, fun x hx => ⟨by rw [gI_cell (hk 173 (by decide) (by decide))]; exact (h5 x hx).1, fun q k hk2 => by rw [gI_cell (hk 172 (by decide) (by decide))]; exact (h5 x hx).2 q k hk2⟩, by rw [gI_cell e9]; exact h6, by rw [gI_cell e9]; exact h7⟩
theorem MP.kc (h : MP w m H n l L S K a b) (hk : fC w w2) : MP w2 m H n l L S K a b := h.cells (fun c h1 h2 => hk c h1 (by omega) (by omega))
theorem Sc.kc (h : Sc w sn sf) (hk : fC w w2) : Sc w2 sn sf := (hk pSC (by decide) (by decide) (by decide)).trans h
theorem Sc.km (h : Sc w sn sf) (hk : fM w w2) : Sc w2 sn sf := (hk pSC (by decide)).trans h
/-- the class's questions -/
theorem CP.cf (h : CP w m H n l L S K a b) (F : CF w w2) : CP w2 m H n l L S K a b := by
  have hk : ∀ c, ¬ (14 ≤ c ∧ c < 27) → ¬ (139 ≤ c ∧ c ≤ 142) → w2.2.2 c = w.2.2 c := F.2
  obtain ⟨h1, h2, h3, h4, h5, h6, h7⟩ := h
  refine ⟨F.b1 h1, h2.cells (fun c hc => hk c (by omega) (by omega)), ⟨by rw [gI_cell (hk 135 (by decide) (by decide))]; exact h3.1, h3.2.1, fun k hk2 => by rw [gI_cell (hk 136 (by decide) (by decide))]; exact h3.2.2 k hk2⟩, ⟨by rw [gI_cell (hk 137 (by decide) (by decide))]; exact h4.1, fun k hk2 => by rw [gI_cell (hk 138 (by decide) (by decide))]; exact h4.2 k hk2⟩, fun x hx => ⟨by rw [gI_cell (hk 134 (by decide) (by decide))]; exact (h5 x hx).1, fun q => ((h5 x hx).2 q).cells (fun k hk2 => hk _ (by omega) (by omega))⟩, by rw [gI_cell (hk 0 (by decide) (by decide))]; exact h6, by rw [gI_cell (hk 0 (by decide) (by decide))]; exact h7⟩
theorem CF.kc (F : CF w w2) : fC w w2 := fun c hc _ _ => F.2 c (by omega) (by omega)
/-- the model's questions -/
theorem MP.mq (h : MP w m H n l L S K a b) (F : MqF w w2) : MP w2 m H n l L S K a b := by
  obtain ⟨h1, h2, h3, h4, h5, h6, h7⟩ := h
  obtain ⟨-, k1, -, f6, f8, f12, f15, f30⟩ := id F
  refine ⟨F.mr h1, h2.mq F, ⟨f8.trans h3.1, h3.2.1, fun k hk2 => by rw [gI_cell (k1 175 (by decide) (by decide))]; exact h3.2.2 k hk2⟩, ⟨f30.trans h4.1, fun k hk2 => by rw [gI_cell (k1 179 (by decide) (by decide))]; exact h4.2 k hk2⟩, fun x hx => ⟨by rw [gI_cell (k1 173 (by decide) (by decide))]; exact (h5 x hx).1, fun q k hk2 => by rw [gI_cell (k1 172 (by decide) (by decide))]; exact (h5 x hx).2 q k hk2⟩, f12.trans h6, f15.trans h7⟩
theorem MqF.km (F : MqF w w2) : fM w w2 := fun c hc => F.2.1 c (by omega) (by omega)
theorem MAF.km (F : MAF w w2) : fM w w2 := fun c hc => F.2.1 c (by omega) (by omega) (by omega)
/-- the model's actions -/
theorem MP.ma {m2 : Row} {H2 : Nat → Row} {n2 : Nat} (h : MP w m H n l L S K a b) (F : MAF w w2) (hM : MR w2 m2) (hH : HM w2 H2 n2) : MP w2 m2 H2 n2 l L S K a b := by
  obtain ⟨h1, h2, h3, h4, h5, h6, h7⟩ := h
  obtain ⟨-, k1, f8, f12, f15, f30⟩ := F
  refine ⟨hM, hH, ⟨f8.trans h3.1, h3.2.1, fun k hk2 => by rw [gI_cell (k1 175 (by decide) (by decide) (by decide))]; exact h3.2.2 k hk2⟩, ⟨f30.trans h4.1, fun k hk2 => by rw [gI_cell (k1 179 (by decide) (by decide) (by decide))]; exact h4.2 k hk2⟩, fun x hx => ⟨by rw [gI_cell (k1 173 (by decide) (by decide) (by decide))]; exact (h5 x hx).1, fun q k hk2 => by rw [gI_cell (k1 172 (by decide) (by decide) (by decide))]; exact (h5 x hx).2 q k hk2⟩, f12.trans h6, f15.trans h7⟩
/-- the class's actions -/
theorem CP.ao {o : Option Row} (h : CP w m H n l L S K a b) (F : AO w H n m o w2) : CP w2 (aM m o) (aH H n m o) (aN n o) l L S K a b ∧ fC w w2 := by
  obtain ⟨h1, h2, h3, h4, h5, h6, h7⟩ := h
  obtain ⟨-, hk, hB, hH⟩ := F
  refine ⟨⟨hB, hH, ⟨by rw [gI_cell (hk 135 (by decide) (by decide))]; exact h3.1, h3.2.1, fun k hk2 => by rw [gI_cell (hk 136 (by decide) (by decide))]; exact h3.2.2 k hk2⟩, ⟨by rw [gI_cell (hk 137 (by decide) (by decide))]; exact h4.1, fun k hk2 => by rw [gI_cell (hk 138 (by decide) (by decide))]; exact h4.2 k hk2⟩, fun x hx => ⟨by rw [gI_cell (hk 134 (by decide) (by decide))]; exact (h5 x hx).1, fun q => ((h5 x hx).2 q).cells (fun k hk2 => hk _ (by omega) (by omega))⟩, by rw [gI_cell (hk 0 (by decide) (by decide))]; exact h6, by rw [gI_cell (hk 0 (by decide) (by decide))]; exact h7⟩, fun c hc _ _ => hk c (by omega) (by omega)⟩
end REL
