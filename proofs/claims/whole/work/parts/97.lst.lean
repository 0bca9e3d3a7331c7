/-! THE LAW: the state behind an action, a text, a load -/
/-- the row that an action leaves can go on -/
def AF8 (s : AR) : Prop := ∀ m2, s.2 = some m2 → RFin m2
/-- the text that is written fits -/
def AL8 (s : PO × Option (List Nat)) : Prop := ∀ l, s.2 = some l → l.length ≤ 400
section AF8S
variable {m : Row} {r s : AR} {x x1 x2 x3 x4 : Int}
theorem af8_P {P : Prop} [Decidable P] {E : Nat} (h : P → AF8 r) : AF8 (aP P E r) := by
  unfold aP
  split
  · rename_i q
    exact h q
  · intro m2 e
    cases e
theorem af8_Q {P : Prop} [Decidable P] (h : P → AF8 r) (h2 : AF8 s) : AF8 (aQ P r s) := by
  unfold aQ
  split
  · rename_i q
    exact h q
  · exact h2
theorem af8_U (h : AF8 r) : AF8 (aU m x r) := af8_P (fun _ => h)
theorem af8_N {o : PO} : AF8 (o, none) := fun m2 e => by cases e
theorem af8_S {o : PO} {m2 : Row} (hF : RFin m) (h8 : m2 8 = m 8) (h9 : m2 9 = m 9) : AF8 (o, some m2) := fun m3 e => by
  obtain rfl : m2 = m3 := Option.some.inj e
  unfold RFin
  rw [h8, h9]
  exact hF
theorem rOne_ne {J j : Nat} {z : Int} (h : j ≠ J) : rOne m J z j = m j := if_neg h
theorem af165 (hF : RFin m) : AF8 (sa165 m x1 x2 x3) := by
  unfold sa165
  exact af8_P fun _ => af8_P fun _ => af8_P fun _ => af8_Q (fun _ => af8_S hF (rNote_lo (by decide) (by decide)) (rNote_lo (by decide) (by decide))) af8_N
theorem af168 (hF : RFin m) : AF8 (sa168 m x1) := by
  unfold sa168
  exact af8_P fun _ => af8_S hF (rDrop_lo (by decide) (by decide)) (rDrop_lo (by decide) (by decide))
theorem af170 (hF : RFin m) : AF8 (sa170 m x1 x2) := by
  unfold sa170
  exact af8_P fun _ => af8_P fun _ => af8_Q (fun _ => af8_S hF (rTooth_lo (by decide) (by decide)) (rTooth_lo (by decide) (by decide))) af8_N
theorem af172 (hF : RFin m) : AF8 (sa172 m x1 x2) := by
  unfold sa172
  exact af8_P fun _ => af8_P fun _ => af8_S hF (rOne_ne (by omega)) (rOne_ne (by omega))
theorem af174 (hF : RFin m) : AF8 (sa174 m x1 x2) := by
  unfold sa174
  exact af8_P fun _ => af8_P fun _ => af8_S hF (rOne_ne (by omega)) (rOne_ne (by omega))
theorem af176 (hF : RFin m) : AF8 (sa176 m x1 x2 x3 x4) := by
  unfold sa176
  exact af8_P fun _ => af8_P fun _ => af8_P fun _ => af8_S hF (rSetP_lo (by decide)) (rSetP_lo (by decide))
theorem af178 (hF : RFin m) : AF8 (sa178 m x1) := by
  unfold sa178
  exact af8_U (af8_S hF (rSetP_lo (by decide)) (rSetP_lo (by decide)))
theorem af181 (hF : RFin m) : AF8 (sa181 m x1) := by
  unfold sa181
  exact af8_U (af8_Q (fun _ => af8_Q (fun _ => af8_S hF (rSetP_lo (by decide)) (rSetP_lo (by decide))) af8_N) af8_N)
theorem af185 (hF : RFin m) : AF8 (sa185 m x1 x2) := by
  unfold sa185
  exact af8_U (af8_P fun _ => af8_Q (fun _ => af8_S hF (rSetN_lo (by decide)) (rSetN_lo (by decide))) af8_N)
theorem af188 (hF : RFin m) : AF8 (sa188 m x1 x2) := by
  unfold sa188
  exact af8_U (af8_P fun _ => af8_S hF ((rSetN_lo (by decide)).trans (rSetP_lo (by decide))) ((rSetN_lo (by decide)).trans (rSetP_lo (by decide))))
theorem af193 (hF : RFin m) : AF8 (sa193 m x1) := by
  unfold sa193
  exact af8_U (af8_S hF ((rSetN_lo (by decide)).trans (rSetP_lo (by decide))) ((rSetN_lo (by decide)).trans (rSetP_lo (by decide))))
theorem af195 (hF : RFin m) : AF8 (sa195 m x1) := by
  unfold sa195
  exact af8_P fun _ => af8_S hF (rOne_ne (by decide)) (rOne_ne (by decide))
theorem af197 (hF : RFin m) : AF8 (sa197 m x1) := by
  unfold sa197
  exact af8_P fun _ => af8_S hF (rOne_ne (by decide)) (rOne_ne (by decide))
theorem af199 (hF : RFin m) : AF8 (sa199 m x1) := by
  unfold sa199
  exact af8_U (af8_S hF (rOne_ne (by decide)) (rOne_ne (by decide)))
theorem af201 (hm : RowOK m) (hF : RFin m) : AF8 (sa201 m x1) := by
  unfold sa201
  refine af8_P fun q => af8_Q (fun q2 => ?_) af8_N
  intro m3 e
  obtain rfl : rRun m x1.toNat = m3 := Option.some.inj e
  have := rRun_ok hm hF.1 x1.toNat (by omega)
  exact ⟨this.2.1, by rw [this.2.2]; omega⟩
theorem al207 (hm : RowOK m) : AL8 (st207 m x1 x2) := by
  unfold st207 aU aP
  split
  · split
    · rename_i q
      intro l e
      obtain rfl : txt207 m x1.toNat x2.toNat = l := Option.some.inj e
      have h1 := hm.2.2.2.2.2.2.2.2.2.2.2.1 x2.toNat (by omega)
      have h2 := oPit_len (p := (rT m x2.toNat 0).toNat) (by omega)
      have h3 := tPin_len m x1.toNat x2.toNat (m 0).toNat
      have h4 := hm.1
      unfold txt207
      rw [List.length_append, List.length_append, h3]
      show _ + 1 + _ ≤ 400
      omega
    · intro l e
      cases e
  · intro l e
    cases e
theorem al209 (hm : RowOK m) : AL8 (st209 m x1 x2) := by
  unfold st209 aU aP
  split
  · split
    · intro l e
      obtain rfl : tRow m x1 x2 24 = l := Option.some.inj e
      have h2 := tRow_len m x1 x2 24 (Nat.le_refl _)
      have h3 := cnt_le (fun i => decide (rN m i 2 < ((24 : Nat) : Int))) (m 5).toNat
      have h4 := hm.2.2.2.2.2.1
      omega
    · intro l e
      cases e
  · intro l e
    cases e
end AF8S
section FP0S
variable {m m2 : Row} {H : Nat → Row} {n : Nat} {L : List Nat} {S : Nat → Row} {K : Nat → Int} {s : AR}
theorem FP0.ac (hF : FP0 m H n L S K) (h8 : n ≤ 8) (h : AF8 s) : FP0 (aM m s.2) (aH H n m s.2) (aN n s.2) L S K := by
  obtain ⟨f1, f2, f3, f4⟩ := hF
  obtain ⟨o1, o⟩ := s
  cases o with
  | none => exact ⟨f1, f2, f3, f4⟩
  | some m2 =>
    refine ⟨h m2 rfl, fun j hj => ?_, f3, f4⟩
    have hj : j < hLen n := hj
    show RFin (hPush H n m j)
    unfold hPush
    unfold hLen at hj
    by_cases q : n = 8
    · rw [if_pos q]
      rw [if_pos q] at hj
      by_cases q2 : j = 7
      · rw [if_pos q2]; exact f1
      · rw [if_neg q2]; exact f2 _ (by omega)
    · rw [if_neg q]
      rw [if_neg q] at hj
      by_cases q2 : j = n
      · rw [if_pos q2]; exact f1
      · rw [if_neg q2]; exact f2 _ (by omega)
theorem FP0.un {y : Nat} (hF : FP0 m H (y + 1) L S K) : FP0 (H y) H y L S K := ⟨hF.2.1 y (by omega), fun j hj => hF.2.1 j (by omega), hF.2.2⟩
theorem FP0.ld {G : Nat → Row} (hF : FP0 m H n L S K) (h : RFin m2) : FP0 m2 G 0 L S K := ⟨h, fun j hj => absurd hj (Nat.not_lt_zero j), hF.2.2⟩
theorem FP0.tx {t : PO × Option (List Nat)} (hF : FP0 m H n L S K) (h : AL8 t) : FP0 m H n (tN L t.2) S K := by
  obtain ⟨f1, f2, f3, f4⟩ := hF
  obtain ⟨o1, o⟩ := t
  cases o with
  | none => exact ⟨f1, f2, f3, f4⟩
  | some l => exact ⟨f1, f2, h l rfl, f4⟩
theorem FP0.sn {x : Nat} (hF : FP0 m H n L S K) : FP0 m H n L (fun i => if i = x then m else S i) (fun i => if i = x then 1 else K i) := by
  obtain ⟨f1, f2, f3, f4⟩ := hF
  refine ⟨f1, f2, f3, fun i hi q => ?_⟩
  dsimp only at q ⊢
  by_cases e : i = x
  · rw [if_pos e]; exact f1
  · rw [if_neg e]; rw [if_neg e] at q; exact f4 i hi q
end FP0S
section CPS
variable {w w2 w3 : PW} {m m2 : Row} {H H2 : Nat → Row} {n n2 : Nat} {l l2 L : List Nat} {S : Nat → Row} {K : Nat → Int} {a b a2 b2 : Int}
theorem CP.af (h : CP w m H n l L S K a b) (hk : AF w w2) (hB : BR w2 1 m2) (hH : HR w2 H2 n2) : CP w2 m2 H2 n2 l L S K a b ∧ fC w w2 := by
  obtain ⟨h1, h2, h3, h4, h5, h6, h7⟩ := h
  refine ⟨⟨hB, hH, ⟨by rw [gI_cell (hk 135 (by decide) (by decide))]; exact h3.1, h3.2.1, fun k hk2 => by rw [gI_cell (hk 136 (by decide) (by decide))]; exact h3.2.2 k hk2⟩, ⟨by rw [gI_cell (hk 137 (by decide) (by decide))]; exact h4.1, fun k hk2 => by rw [gI_cell (hk 138 (by decide) (by decide))]; exact h4.2 k hk2⟩, fun x hx => ⟨by rw [gI_cell (hk 134 (by decide) (by decide))]; exact (h5 x hx).1, fun q => ((h5 x hx).2 q).cells (fun k hk2 => hk _ (by omega) (by omega))⟩, by rw [gI_cell (hk 0 (by decide) (by decide))]; exact h6, by rw [gI_cell (hk 0 (by decide) (by decide))]; exact h7⟩, fun c hc _ _ => hk c (by omega) (by omega)⟩
/-- a text written -/
theorem CP.to {o : Option (List Nat)} (h : CP w m H n l L S K a b) (hs : Sh w) (F : TO w o w2) : Sh w2 ∧ CP w2 m H n l (tN L o) S K a b ∧ fC w w2 := by
  cases o with
  | none =>
    have e : w2 = w := F
    subst e
    exact ⟨hs, h, fC.rf⟩
  | some l2 =>
    obtain ⟨s2, hk, hL⟩ : Sh w2 ∧ WF w w2 ∧ WL w2 l2 := F
    obtain ⟨h1, h2, h3, h4, h5, h6, h7⟩ := h
    refine ⟨s2, ⟨h1.cells (fun k hk2 => hk _ (by omega)), h2.cells (fun c hc => hk c (by omega)), ⟨by rw [gI_cell (hk 135 (by decide))]; exact h3.1, h3.2.1, fun k hk2 => by rw [gI_cell (hk 136 (by decide))]; exact h3.2.2 k hk2⟩, hL, fun x hx => ⟨by rw [gI_cell (hk 134 (by decide))]; exact (h5 x hx).1, fun q => ((h5 x hx).2 q).cells (fun k hk2 => hk _ (by omega))⟩, by rw [gI_cell (hk 0 (by decide))]; exact h6, by rw [gI_cell (hk 0 (by decide))]; exact h7⟩, fun c hc _ _ => hk c (by omega)⟩
/-- a text appended -/
theorem CP.ap (h : CP w m H n l L S K a b) (hT : TX w2 l2) (hk : ∀ c, c ≠ 135 → c ≠ 136 → w2.2.2 c = w.2.2 c) : CP w2 m H n l2 L S K a b ∧ fC w w2 := by
  obtain ⟨h1, h2, h3, h4, h5, h6, h7⟩ := h
  refine ⟨⟨h1.cells (fun k hk2 => hk _ (by omega) (by omega)), h2.cells (fun c hc => hk c (by omega) (by omega)), hT, ⟨by rw [gI_cell (hk 137 (by decide) (by decide))]; exact h4.1, fun k hk2 => by rw [gI_cell (hk 138 (by decide) (by decide))]; exact h4.2 k hk2⟩, fun x hx => ⟨by rw [gI_cell (hk 134 (by decide) (by decide))]; exact (h5 x hx).1, fun q => ((h5 x hx).2 q).cells (fun k hk2 => hk _ (by omega) (by omega))⟩, by rw [gI_cell (hk 0 (by decide) (by decide))]; exact h6, by rw [gI_cell (hk 0 (by decide) (by decide))]; exact h7⟩, fun c hc _ _ => hk c (by omega) (by omega)⟩
/-- a load that fails -/
theorem CP.le (h : CP w m H n l L S K a b) (hk : LF w w2) (hT : TX w2 l2) (ha : gI w2 0 8 = a2) (hb : gI w2 0 9 = b2) : CP w2 m H n l2 L S K a2 b2 ∧ fC w w2 := by
  obtain ⟨h1, h2, h3, h4, h5, -, -⟩ := h
  refine ⟨⟨h1.cells (fun k hk2 => hk _ (by omega) (by omega) (by omega)), h2.cells (fun c hc => hk c (by omega) (by omega) (by omega)), hT, ⟨by rw [gI_cell (hk 137 (by decide) (by decide) (by decide))]; exact h4.1, fun k hk2 => by rw [gI_cell (hk 138 (by decide) (by decide) (by decide))]; exact h4.2 k hk2⟩, fun x hx => ⟨by rw [gI_cell (hk 134 (by decide) (by decide) (by decide))]; exact (h5 x hx).1, fun q => ((h5 x hx).2 q).cells (fun k hk2 => hk _ (by omega) (by omega) (by omega))⟩, ha, hb⟩, fun c hc _ _ => hk c (by omega) (by omega) (by omega)⟩
/-- a load -/
theorem CP.lv (h : CP w m H n l L S K a b) (hk : LF2 w w2) (hT : TX w2 l2) (ha : gI w2 0 8 = a2) (hb : gI w2 0 9 = b2) (hB : BR w2 1 m2) (hH : HR w2 H2 n2) : CP w2 m2 H2 n2 l2 L S K a2 b2 ∧ fC w w2 := by
  obtain ⟨h1, h2, h3, h4, h5, -, -⟩ := h
  refine ⟨⟨hB, hH, hT, ⟨by rw [gI_cell (hk 137 (by decide) (by decide))]; exact h4.1, fun k hk2 => by rw [gI_cell (hk 138 (by decide) (by decide))]; exact h4.2 k hk2⟩, fun x hx => ⟨by rw [gI_cell (hk 134 (by decide) (by decide))]; exact (h5 x hx).1, fun q => ((h5 x hx).2 q).cells (fun k hk2 => hk _ (by omega) (by omega))⟩, ha, hb⟩, fun c hc _ _ => hk c (by omega) (by omega)⟩
/-- a row kept aside -/
theorem CP.sn {x : Nat} (h : CP w m H n l L S K a b) (hx : x < 2) (hB : BR w2 (143 + 13 * x) m) (hK : ∀ i, gI w2 134 i = if i = x then 1 else gI w 134 i) (hk : ∀ c, ¬ (143 + 13 * x ≤ c ∧ c < 156 + 13 * x) → c ≠ 134 → w2.2.2 c = w.2.2 c) : CP w2 m H n l L (fun i => if i = x then m else S i) (fun i => if i = x then 1 else K i) a b ∧ fC w w2 := by
  obtain ⟨h1, h2, h3, h4, h5, h6, h7⟩ := h
  refine ⟨⟨h1.cells (fun k hk2 => hk _ (by omega) (by omega)), h2.cells (fun c hc => hk c (by omega) (by omega)), ⟨by rw [gI_cell (hk 135 (by omega) (by decide))]; exact h3.1, h3.2.1, fun k hk2 => by rw [gI_cell (hk 136 (by omega) (by decide))]; exact h3.2.2 k hk2⟩, ⟨by rw [gI_cell (hk 137 (by omega) (by decide))]; exact h4.1, fun k hk2 => by rw [gI_cell (hk 138 (by omega) (by decide))]; exact h4.2 k hk2⟩, fun i hi => ?_, by rw [gI_cell (hk 0 (by omega) (by decide))]; exact h6, by rw [gI_cell (hk 0 (by omega) (by decide))]; exact h7⟩, fun c hc _ _ => hk c (by omega) (by omega)⟩
  dsimp only
  rw [hK]
  by_cases e : i = x
  · subst e
    rw [if_pos rfl, if_pos rfl]
    exact ⟨rfl, fun _ => by rw [if_pos rfl]; exact hB⟩
  · rw [if_neg e, if_neg e]
    refine ⟨(h5 i hi).1, fun q => ?_⟩
    rw [if_neg e]
    exact ((h5 i hi).2 q).cells (fun k hk2 => hk _ (by omega) (by omega))
/-- the model's text appended -/
theorem MP.ap (h : MP w m H n l L S K a b) (F : APF w w2) (hT : MTx w2 l2) : MP w2 m H n l2 L S K a b := by
  obtain ⟨h1, h2, h3, h4, h5, h6, h7⟩ := h
  obtain ⟨-, hk, hj⟩ := F
  exact ⟨h1.cell (hk 170 (by decide) (by decide)), h2.cells (hj 6 (by decide) (by decide)) (hk 174 (by decide) (by decide)), hT, ⟨by rw [hj 30 (by decide) (by decide)]; exact h4.1, fun k hk2 => by rw [gI_cell (hk 179 (by decide) (by decide))]; exact h4.2 k hk2⟩, fun x hx => ⟨by rw [gI_cell (hk 173 (by decide) (by decide))]; exact (h5 x hx).1, fun q k hk2 => by rw [gI_cell (hk 172 (by decide) (by decide))]; exact (h5 x hx).2 q k hk2⟩, by rw [hj 12 (by decide) (by decide)]; exact h6, by rw [hj 15 (by decide) (by decide)]; exact h7⟩
/-- the model's load -/
theorem MP.ld (h : MP w m H n l L S K a b) (F : LMF w w2) (hM : MR w2 m2) (hH : HM w2 H2 n2) (hT : MTx w2 l2) (ha : gI w2 169 12 = a2) (hb : gI w2 169 15 = b2) : MP w2 m2 H2 n2 l2 L S K a2 b2 := by
  obtain ⟨h1, h2, h3, h4, h5, h6, h7⟩ := h
  obtain ⟨-, hk, h30⟩ := F
  exact ⟨hM, hH, hT, ⟨by rw [h30]; exact h4.1, fun k hk2 => by rw [gI_cell (hk 179 (by decide) (by decide))]; exact h4.2 k hk2⟩, fun x hx => ⟨by rw [gI_cell (hk 173 (by decide) (by decide))]; exact (h5 x hx).1, fun q k hk2 => by rw [gI_cell (hk 172 (by decide) (by decide))]; exact (h5 x hx).2 q k hk2⟩, ha, hb⟩
/-- the model's text written -/
theorem MP.to {o : Option (List Nat)} (h : MP w m H n l L S K a b) (F : MTF w w2) (hL : ML w2 (tN L o)) : MP w2 m H n l (tN L o) S K a b := by
  obtain ⟨h1, h2, h3, h4, h5, h6, h7⟩ := h
  obtain ⟨-, hk, g6, g8, g12, g15⟩ := F
  exact ⟨h1.cell (hk 170 (by decide) (by decide)), h2.cells g6 (hk 174 (by decide) (by decide)), ⟨g8.trans h3.1, h3.2.1, fun k hk2 => by rw [gI_cell (hk 175 (by decide) (by decide))]; exact h3.2.2 k hk2⟩, hL, fun x hx => ⟨by rw [gI_cell (hk 173 (by decide) (by decide))]; exact (h5 x hx).1, fun q k hk2 => by rw [gI_cell (hk 172 (by decide) (by decide))]; exact (h5 x hx).2 q k hk2⟩, g12.trans h6, g15.trans h7⟩
/-- the model's row kept aside -/
theorem MP.sn {x : Nat} (h : MP w m H n l L S K a b) (hx : x < 2) (F : MSF w w2) (hS : ∀ j, j < 1686 → gI w2 172 j = if 843 * x ≤ j ∧ j < 843 * x + 843 then m (j - 843 * x) else gI w 172 j) (hK : ∀ i, gI w2 173 i = if i = x then 1 else gI w 173 i) : MP w2 m H n l L (fun i => if i = x then m else S i) (fun i => if i = x then 1 else K i) a b := by
  obtain ⟨h1, h2, h3, h4, h5, h6, h7⟩ := h
  obtain ⟨-, hk, hj⟩ := F
  refine ⟨h1.cell (hk 170 (by decide) (by decide) (by decide)), h2.cells (hj 6 (by decide)) (hk 174 (by decide) (by decide) (by decide)), ⟨(hj 8 (by decide)).trans h3.1, h3.2.1, fun k hk2 => by rw [gI_cell (hk 175 (by decide) (by decide) (by decide))]; exact h3.2.2 k hk2⟩, ⟨(hj 30 (by decide)).trans h4.1, fun k hk2 => by rw [gI_cell (hk 179 (by decide) (by decide) (by decide))]; exact h4.2 k hk2⟩, fun i hi => ?_, (hj 12 (by decide)).trans h6, (hj 15 (by decide)).trans h7⟩
  dsimp only
  rw [hK]
  by_cases e : i = x
  · subst e
    rw [if_pos rfl, if_pos rfl]
    refine ⟨rfl, fun _ k hk2 => ?_⟩
    rw [hS _ (by omega), if_pos (by omega), if_pos rfl, Nat.add_sub_cancel_left]
  · rw [if_neg e, if_neg e]
    refine ⟨(h5 i hi).1, fun q k hk2 => ?_⟩
    rw [hS _ (by omega), if_neg (by omega), if_neg e]
    exact (h5 i hi).2 q k hk2
theorem LMF.km (F : LMF w w2) : fM w w2 := fun c hc => F.2.1 c (by omega) (by omega)
theorem APF.km (F : APF w w2) : fM w w2 := fun c hc => F.2.1 c (by omega) (by omega)
theorem MTF.km (F : MTF w w2) : fM w w2 := fun c hc => F.2.1 c (by omega) (by omega)
theorem MSF.km (F : MSF w w2) : fM w w2 := fun c hc => F.2.1 c (by omega) (by omega) (by omega)
end CPS
/-! what is loaded can go on -/
section RLD
variable {l : List Nat} {p q : Nat} {m m2 : Row}
theorem RFin.of (hF : RFin m) (h8 : m2 8 = m 8) (h9 : m2 9 = m 9) : RFin m2 := by
  unfold RFin
  rw [h8, h9]
  exact hF
theorem inr_m {q2 : Nat} {m3 : Row} (h : (Sum.inr (q2, m3) : RSR) = .inr (q, m2)) : m3 = m2 := (Prod.mk.inj (Sum.inr.inj h)).2
theorem sOth_f (hF : RFin m) (h : sOth l p m = .inr (q, m2)) : RFin m2 := by
  unfold sOth at h
  split at h
  · obtain ⟨q1, v1, e1, h⟩ := rB_i h
    rw [← inr_m h]
    exact hF.of (rOne_ne (by decide)) (rOne_ne (by decide))
  · split at h
    · split at h
      · obtain ⟨q1, v1, e1, h⟩ := rB_i h
        obtain ⟨q2, v2, e2, h⟩ := rB_i h
        rw [← inr_m h]
        exact hF.of (rTooth_lo (by decide) (by decide)) (rTooth_lo (by decide) (by decide))
      · cases h
    · split at h
      · split at h
        · obtain ⟨q1, v1, e1, h⟩ := rB_i h
          obtain ⟨q2, v2, e2, h⟩ := rB_i h
          obtain ⟨q3, v3, e3, h⟩ := rB_i h
          rw [← inr_m h]
          exact hF.of (rNote_lo (by decide) (by decide)) (rNote_lo (by decide) (by decide))
        · cases h
      · split at h
        · obtain ⟨q1, v1, e1, h⟩ := rB_i h
          obtain ⟨q2, v2, e2, h⟩ := rB_i h
          obtain ⟨q3, v3, e3, h⟩ := rB_i h
          rw [← inr_m h]
          exact hF.of (rSetP_lo (by decide)) (rSetP_lo (by decide))
        · cases h
theorem rBegin_f {x y z : Int} : RFin (rBegin x y z) := by
  have e8 : rBegin x y z 8 = 0 := rfl
  have e9 : rBegin x y z 9 = 0 := rfl
  unfold RFin
  rw [e8, e9]
  exact ⟨by decide, by decide⟩
theorem sBar_f (h : sBar l p = .inr (q, m2)) : RFin m2 := by
  unfold sBar at h
  split at h
  · obtain ⟨q1, v1, e1, h⟩ := rB_i h
    obtain ⟨q2, v2, e2, h⟩ := rB_i h
    obtain ⟨q3, v3, e3, h⟩ := rB_i h
    rw [← inr_m h]
    exact rBegin_f
  · cases h
theorem sStm_f : ∀ (f p : Nat) (m : Row) (s : Nat), RFin m → sStm l f p m s = .inr m2 → RFin m2 := by
  intro f
  induction f with
  | zero =>
    intro p m s hF h
    obtain rfl : m = m2 := Sum.inr.inj h
    exact hF
  | succ f ih =>
    intro p m s hF h
    unfold sStm at h
    split at h
    · split at h
      · split at h
        · cases h
        · rename_i y hy
          exact ih y.1 y.2 (s + 1) (sOth_f (q := y.1) hF hy) h
      · cases h
    · obtain rfl : m = m2 := Sum.inr.inj h
      exact hF
theorem sLoad_f (h : sLoad l = .inr m2) : RFin m2 := by
  unfold sLoad at h
  split at h
  · cases h
  · rename_i y hy
    exact sStm_f _ y.1 y.2 0 (sBar_f (q := y.1) hy) h
end RLD
