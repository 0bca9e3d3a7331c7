/-! THE MODEL's READER: load; append -/
def RdL (w w2 : PW) : Prop := Sh w2 ∧ (∀ c, c ≠ 169 → c ≠ 170 → w2.2.2 c = w.2.2 c) ∧ ∀ j, (j < 9 ∨ j = 15 ∨ 16 < j) → gI w2 169 j = gI w 169 j
/-- what a load leaves -/
def LMF (w w2 : PW) : Prop := Sh w2 ∧ (∀ c, ¬ (169 ≤ c ∧ c ≤ 171) → ¬ (176 ≤ c ∧ c ≤ 178) → w2.2.2 c = w.2.2 c) ∧ gI w2 169 30 = gI w 169 30
/-- what an append leaves -/
def APF (w w2 : PW) : Prop := Sh w2 ∧ (∀ c, c ≠ 169 → c ≠ 175 → w2.2.2 c = w.2.2 c) ∧ ∀ j, j ≠ 0 → j ≠ 8 → gI w2 169 j = gI w 169 j
theorem rB_i {α β : Type} {x : (Int × Nat) ⊕ (Nat × α)} {f : Nat → α → (Int × Nat) ⊕ (Nat × β)} {y : Nat × β} (h : rB x f = .inr y) : ∃ q v, x = .inr (q, v) ∧ f q v = .inr y := by
  cases x with
  | inl e => exact absurd (show (Sum.inl e : (Int × Nat) ⊕ (Nat × β)) = .inr y from h) (fun z => by cases z)
  | inr z => exact ⟨z.1, z.2, rfl, h⟩
theorem inr_q {α : Type} {q q2 : Nat} {v v2 : α} (h : (Sum.inr (q, v) : (Int × Nat) ⊕ (Nat × α)) = .inr (q2, v2)) : q = q2 := (Prod.mk.inj (Sum.inr.inj h)).1
section MLE
variable {w w1 w2 : PW} {Q : PO → PW → Prop} {m m2 : Row} {l : List Nat} {p q : Nat} {H : Nat → Row} {n : Nat} {y : Int64}
theorem sOth_q (hp : p ≤ l.length) (h : sOth l p m = .inr (q, m2)) : p < q ∧ q ≤ l.length := by
  have hW : p ≤ sW0 l p ∧ sW0 l p ≤ l.length := sWh_bd (P := isSp) hp
  have hW1 : sW0 l p ≤ sW1 l p ∧ sW1 l p ≤ l.length := sWh_bd (P := isAz) hW.2
  unfold sOth at h
  split at h
  · obtain ⟨q1, v1, e1, h⟩ := rB_i h
    have b1 := sRd_bd hW1.2 e1
    have := inr_q h
    omega
  · split at h
    · split at h
      · obtain ⟨q1, v1, e1, h⟩ := rB_i h
        have b1 := sPt_bd hW1.2 e1
        obtain ⟨q2, v2, e2, h⟩ := rB_i h
        have b2 := sRd_bd b1.2.1 e2
        have := inr_q h
        omega
      · cases h
    · split at h
      · split at h
        · obtain ⟨q1, v1, e1, h⟩ := rB_i h
          have b1 := sRd_bd hW1.2 e1
          obtain ⟨q2, v2, e2, h⟩ := rB_i h
          have b2 := sRd_bd b1.2.1 e2
          obtain ⟨q3, v3, e3, h⟩ := rB_i h
          have b3 := sPt_bd b2.2.1 e3
          have := inr_q h
          omega
        · cases h
      · split at h
        · obtain ⟨q1, v1, e1, h⟩ := rB_i h
          have b1 := sRd_bd hW1.2 e1
          obtain ⟨q2, v2, e2, h⟩ := rB_i h
          have b2 := sRd_bd b1.2.1 e2
          obtain ⟨q3, v3, e3, h⟩ := rB_i h
          have b3 := sRd_bd b2.2.1 e3
          have := inr_q h
          omega
        · cases h
theorem sBar_q (hp : p ≤ l.length) (h : sBar l p = .inr (q, m2)) : p < q ∧ q ≤ l.length := by
  have hW : p ≤ sW0 l p ∧ sW0 l p ≤ l.length := sWh_bd (P := isSp) hp
  have hW1 : sW0 l p ≤ sW1 l p ∧ sW1 l p ≤ l.length := sWh_bd (P := isAz) hW.2
  unfold sBar at h
  split at h
  · obtain ⟨q1, v1, e1, h⟩ := rB_i h
    have b1 := sRd_bd hW1.2 e1
    obtain ⟨q2, v2, e2, h⟩ := rB_i h
    have b2 := sRd_bd b1.2.1 e2
    obtain ⟨q3, v3, e3, h⟩ := rB_i h
    have b3 := sRd_bd b2.2.1 e3
    have := inr_q h
    omega
  · cases h
theorem rB_e {α β : Type} {x : (Int × Nat) ⊕ (Nat × α)} {f : Nat → α → (Int × Nat) ⊕ (Nat × β)} {e : Int × Nat} (h : rB x f = .inl e) : x = .inl e ∨ ∃ q v, x = .inr (q, v) ∧ f q v = .inl e := by
  cases x with
  | inl e2 => exact Or.inl (congrArg Sum.inl (Sum.inl.inj (show (Sum.inl e2 : (Int × Nat) ⊕ (Nat × β)) = .inl e from h)))
  | inr z => exact Or.inr ⟨z.1, z.2, rfl, h⟩
theorem sRd_e {lo hi kk : Int} {aa : Nat} (hp : p ≤ l.length) (h : sRd l p lo hi = .inl (kk, aa)) : aa ≤ l.length := by
  have hW : p ≤ sW0 l p ∧ sW0 l p ≤ l.length := sWh_bd (P := isSp) hp
  unfold sRd at h
  split at h
  · have := (Prod.mk.inj (Sum.inl.inj h)).2; omega
  · split at h
    · cases h
    · have := (Prod.mk.inj (Sum.inl.inj h)).2; omega
theorem sPt_e {kk : Int} {aa : Nat} (hp : p ≤ l.length) (h : sPt l p = .inl (kk, aa)) : aa ≤ l.length := by
  have hW : p ≤ sW0 l p ∧ sW0 l p ≤ l.length := sWh_bd (P := isSp) hp
  have hW1 : sW0 l p ≤ sW1 l p ∧ sW1 l p ≤ l.length := sWh_bd (P := isAz) hW.2
  unfold sPt at h
  split at h
  · have := (Prod.mk.inj (Sum.inl.inj h)).2; omega
  · split at h
    · rename_i x hx
      have := Sum.inl.inj h
      rw [this] at hx
      exact sRd_e hW1.2 hx
    · cases h
theorem sOth_e {kk : Int} {aa : Nat} (hp : p ≤ l.length) (h : sOth l p m = .inl (kk, aa)) : aa ≤ l.length := by
  have hW : p ≤ sW0 l p ∧ sW0 l p ≤ l.length := sWh_bd (P := isSp) hp
  have hW1 : sW0 l p ≤ sW1 l p ∧ sW1 l p ≤ l.length := sWh_bd (P := isAz) hW.2
  have d : ∀ {k2 : Int} {a2 : Nat}, (Sum.inl (k2, a2) : RSR) = .inl (kk, aa) → aa = a2 := fun z => (Prod.mk.inj (Sum.inl.inj z)).2.symm
  unfold sOth at h
  split at h
  · rcases rB_e h with h | ⟨q1, v1, e1, h⟩
    · exact sRd_e hW1.2 h
    · cases h
  · split at h
    · split at h
      · rcases rB_e h with h | ⟨q1, v1, e1, h⟩
        · exact sPt_e hW1.2 h
        · have b1 := sPt_bd hW1.2 e1
          rcases rB_e h with h | ⟨q2, v2, e2, h⟩
          · exact sRd_e b1.2.1 h
          · cases h
      · have := d h; omega
    · split at h
      · split at h
        · rcases rB_e h with h | ⟨q1, v1, e1, h⟩
          · exact sRd_e hW1.2 h
          · have b1 := sRd_bd hW1.2 e1
            rcases rB_e h with h | ⟨q2, v2, e2, h⟩
            · exact sRd_e b1.2.1 h
            · have b2 := sRd_bd b1.2.1 e2
              rcases rB_e h with h | ⟨q3, v3, e3, h⟩
              · exact sPt_e b2.2.1 h
              · cases h
        · have := d h; omega
      · split at h
        · rcases rB_e h with h | ⟨q1, v1, e1, h⟩
          · exact sRd_e hW1.2 h
          · have b1 := sRd_bd hW1.2 e1
            rcases rB_e h with h | ⟨q2, v2, e2, h⟩
            · exact sRd_e b1.2.1 h
            · have b2 := sRd_bd b1.2.1 e2
              rcases rB_e h with h | ⟨q3, v3, e3, h⟩
              · exact sRd_e b2.2.1 h
              · cases h
        · have := d h; omega
theorem sBar_e {kk : Int} {aa : Nat} (hp : p ≤ l.length) (h : sBar l p = .inl (kk, aa)) : aa ≤ l.length := by
  have hW : p ≤ sW0 l p ∧ sW0 l p ≤ l.length := sWh_bd (P := isSp) hp
  have hW1 : sW0 l p ≤ sW1 l p ∧ sW1 l p ≤ l.length := sWh_bd (P := isAz) hW.2
  unfold sBar at h
  split at h
  · rcases rB_e h with h | ⟨q1, v1, e1, h⟩
    · exact sRd_e hW1.2 h
    · have b1 := sRd_bd hW1.2 e1
      rcases rB_e h with h | ⟨q2, v2, e2, h⟩
      · exact sRd_e b1.2.1 h
      · have b2 := sRd_bd b1.2.1 e2
        rcases rB_e h with h | ⟨q3, v3, e3, h⟩
        · exact sRd_e b2.2.1 h
        · cases h
  · have := (Prod.mk.inj (Sum.inl.inj h)).2; omega
theorem sStm_e {kk : Int} {aa ss : Nat} : ∀ (f p : Nat) (m : Row) (s : Nat), p ≤ l.length → sStm l f p m s = .inl (kk, aa, ss) → aa ≤ l.length := by
  intro f
  induction f with
  | zero => intro p m s hp h; cases h
  | succ f ih =>
    intro p m s hp h
    have hW : p ≤ sW0 l p ∧ sW0 l p ≤ l.length := sWh_bd (P := isSp) hp
    unfold sStm at h
    split at h
    · split at h
      · split at h
        · rename_i e he
          have e2 := Prod.mk.inj (Sum.inl.inj h)
          have e3 := Prod.mk.inj e2.2
          exact sOth_e (p := sW0 l p + 1) (m := m) (kk := e.1) (aa := aa) (by omega) (by rw [he, ← e3.1])
        · rename_i y hy
          have hq := sOth_q (q := y.1) (m2 := y.2) (by omega) hy
          exact ih y.1 y.2 (s + 1) hq.2 h
      · have e2 := Prod.mk.inj (Sum.inl.inj h)
        have e3 := Prod.mk.inj e2.2
        omega
    · cases h
theorem sLoad_e {kk : Int} {aa ss : Nat} (h : sLoad l = .inl (kk, aa, ss)) : aa ≤ l.length := by
  unfold sLoad at h
  split at h
  · rename_i e he
    have e2 := Prod.mk.inj (Sum.inl.inj h)
    have e3 := Prod.mk.inj e2.2
    exact sBar_e (kk := e.1) (aa := aa) (Nat.zero_le _) (by rw [he, ← e3.1])
  · rename_i y hy
    have hq := sBar_q (q := y.1) (m2 := y.2) (Nat.zero_le _) hy
    exact sStm_e _ y.1 y.2 0 hq.2 h
theorem RdL.rf (hs : Sh w) : RdL w w := ⟨hs, fun _ _ _ => rfl, fun _ _ => rfl⟩
theorem RdL.tr (h1 : RdL w w1) (h2 : RdL w1 w2) : RdL w w2 := ⟨h2.1, fun c a b => (h2.2.1 c a b).trans (h1.2.1 c a b), fun j hj => (h2.2.2 j hj).trans (h1.2.2 j hj)⟩
theorem RdW.rl {e r : Bool} (h : RdW e r w w2) : RdL w w2 := ⟨h.1, fun c a b => h.2.1 c a (fun _ => b), fun j hj => h.2.2 j (by omega) (by omega) (by omega) (fun _ => by omega) (fun _ => ⟨by omega, by omega⟩)⟩
theorem RdL.tx (h : RdL w w2) (hT : MTx w l) : MTx w2 l := ⟨(h.2.2 8 (by decide)).trans hT.1, hT.2.1, fun k hk => by rw [gI_cell (h.2.1 175 (by decide) (by decide))]; exact hT.2.2 k hk⟩
theorem l240 (hT : MTx w l) : ∀ (f p : Nat) (m : Row) (s : Nat) (w1 : PW), l.length < f + p → p ≤ l.length → s ≤ p → RdL w w1 → gI w1 169 9 = (p : Nat) → gI w1 169 14 = (s : Nat) → gI w1 169 12 = 0 → MR w1 m → (∀ kk aa ss, sStm l f p m s = .inl (kk, aa, ss) → ∀ w2, RdL w w2 → gI w2 169 12 = kk → gI w2 169 13 = (aa : Nat) → gI w2 169 14 = (ss : Nat) → Q (.inl (some (iv 0))) w2) → (∀ m2, sStm l f p m s = .inr m2 → ∀ w2, RdL w w2 → gI w2 169 12 = 0 → MR w2 m2 → Q (.inl (some (iv 1))) w2) → pC 220 [.ref 169] w1 (kI fun u5 w4 => Sh w4 ∧ (u5 ≠ ((-1)) → (u5 = 59 → ∀ w8 : PW, w8 = sI w4 169 9 ((gI w4 169 9) + 1) → ∀ w9 : PW, w9 = sI w8 169 14 ((gI w8 169 14) + 1) → pX 240 10 [some (.ref 169), some (iv u5)] [] w9 Q) ∧ (u5 ≠ 59 → ∀ w10 : PW, w10 = sI (sI w4 169 12 1) 169 13 (gI w4 169 10) → Q (.inl (some (iv 0))) w10)) ∧ (u5 = ((-1)) → Q (.inl (some (iv 1))) w4)) := by
  have h7 := hT.2.1
  intro f
  induction f with
  | zero => intro p m s w1 hf hp; omega
  | succ f ih =>
    intro p m s w1 hf hp hsp F1 h9 h14 h12 hM hE hV
    have hW : p ≤ sW0 l p ∧ sW0 l p ≤ l.length := sWh_bd (P := isSp) hp
    refine c220 F1.1 (F1.tx hT) hp h9 (fun w4 F4 g9 g10 => kI_iv (nxt_bd hT) ⟨F4.1, fun q => ?_, fun q => ?_⟩)
    · have hlt : sW0 l p < l.length := by
        by_cases z : sW0 l p < l.length
        · exact z
        · rw [if_neg z] at q; exact absurd rfl q
      have g14 : gI w4 169 14 = (s : Nat) := (F4.2.2 14 (by decide) (by decide) (by decide) (fun _ => by decide) (fun _ => ⟨by decide, by decide⟩)).trans h14
      have g12 : gI w4 169 12 = 0 := (F4.2.2 12 (by decide) (by decide) (by decide) (fun _ => by decide) (fun z => by cases z)).trans h12
      rw [if_pos hlt, g9, g10]
      unfold sStm at hE hV
      rw [if_pos hlt] at hE hV
      refine ⟨fun q2 w8 e8 w9 e9 => ?_, fun q2 w10 e10 => ?_⟩
      · rw [if_pos (by omega)] at hE hV
        obtain ⟨F8, g8⟩ := RdW.set F4.1 e8 (slt_o tbC_169 rfl) ⟨by omega, by omega⟩ (by omega)
        rw [g8, if_neg (by decide), g14] at e9
        obtain ⟨s9, v9, -, k9⟩ := stI e9 F8.1 (by omega) (slt_o tbC_169 rfl) ⟨by omega, by omega⟩
        have F9 : RdL w w9 := (F1.tr (F4.rl.tr F8.rl)).tr ⟨s9, fun c a _ => k9 c a, fun j hj => by rw [v9, if_neg (by omega)]⟩
        have M9 : MR w9 m := ((F8.r0 (F4.r0 hM))).cell (k9 170 (by decide))
        have n9 : gI w9 169 9 = ((sW0 l p + 1 : Nat) : Int) := by rw [v9, if_neg (by omega), g8, if_pos rfl]; rfl
        have n14 : gI w9 169 14 = ((s + 1 : Nat) : Int) := by rw [v9, if_pos ⟨rfl, rfl⟩]; rfl
        have n12 : gI w9 169 12 = 0 := by rw [v9, if_neg (by omega), g8, if_neg (by omega), g12]
        refine v240_10 s9 rfl (c239b s9 (F9.tx hT) M9 (by omega) n9 (by omega) (fun kk aa er w5 F5 a5 b5 => kI_iv bd0 ⟨F5.1, fun z => absurd rfl z, fun _ => ?_⟩) (fun q5 m5 er w5 F5 a5 M5 => kI_iv (by decide) ⟨F5.1, fun _ => ?_, fun z => absurd z (by decide)⟩))
        · rw [er] at hE
          exact hE kk aa _ rfl w5 (F9.tr F5.rl) a5 b5 ((F5.2.2 14 (by decide) (by decide) (by decide) (fun _ => by decide) (fun _ => ⟨by decide, by decide⟩)).trans n14)
        · rw [er] at hE hV
          have hq := sOth_q (by omega) er
          exact ih q5 m5 (s + 1) w5 (by omega) hq.2 (by omega) (F9.tr F5.rl) a5 ((F5.2.2 14 (by decide) (by decide) (by decide) (fun _ => by decide) (fun _ => ⟨by decide, by decide⟩)).trans n14) ((F5.2.2 12 (by decide) (by decide) (by decide) (fun _ => by decide) (fun z => by cases z)).trans n12) M5 hE hV
      · rw [if_neg (by omega)] at hE
        obtain ⟨F5, a5, b5⟩ := RdW.fail F4.1 (by decide) (bdk (by omega)) e10
        exact hE 1 _ _ rfl w10 (F1.tr (F4.rl.tr F5.rl)) a5 b5 ((F5.2.2 14 (by decide) (by decide) (by decide) (fun _ => by decide) (fun _ => ⟨by decide, by decide⟩)).trans g14)
    · have hge : ¬ sW0 l p < l.length := fun z => by
        rw [if_pos z] at q
        omega
      unfold sStm at hV
      rw [if_neg hge] at hV
      exact hV m rfl w4 (F1.tr F4.rl) ((F4.2.2 12 (by decide) (by decide) (by decide) (fun _ => by decide) (fun z => by cases z)).trans h12) (F4.r0 hM)
theorem c240 (hs : Sh w) (hT : MTx w l) (h12 : gI w 169 12 = 0) (hE : ∀ kk aa ss, sLoad l = .inl (kk, aa, ss) → ∀ w2, RdL w w2 → gI w2 169 12 = kk → gI w2 169 13 = (aa : Nat) → gI w2 169 14 = (ss : Nat) → Q (.inl (some (iv 0))) w2) (hV : ∀ m2, sLoad l = .inr m2 → ∀ w2, RdL w w2 → gI w2 169 12 = 0 → MR w2 m2 → Q (.inl (some (iv 1))) w2) : pC 240 [.ref 169] w Q := by
  refine e240 hs (fun w1 e1 w2 e2 => ?_)
  obtain ⟨F1, g1⟩ := RdW.set hs e1 (slt_o tbC_169 rfl) bd0 (by omega)
  obtain ⟨s2, v2, -, k2⟩ := stI e2 F1.1 (by omega) (slt_o tbC_169 rfl) bd0
  have F2 : RdL w w2 := F1.rl.tr ⟨s2, fun c a _ => k2 c a, fun j hj => by rw [v2, if_neg (by omega)]⟩
  have n9 : gI w2 169 9 = ((0 : Nat) : Int) := by rw [v2, if_neg (by omega), g1, if_pos rfl]; rfl
  have n14 : gI w2 169 14 = 0 := by rw [v2, if_pos ⟨rfl, rfl⟩]
  have n12 : gI w2 169 12 = 0 := by rw [v2, if_neg (by omega), g1, if_neg (by omega), h12]
  unfold sLoad at hE hV
  refine v240_10 s2 rfl (c239a s2 (F2.tx hT) (Nat.zero_le _) n9 n14 (fun kk aa er w5 F5 a5 b5 => kI_iv bd0 ⟨F5.1, fun z => absurd rfl z, fun _ => ?_⟩) (fun q5 m5 er w5 F5 a5 M5 => kI_iv (by decide) ⟨F5.1, fun _ => ?_, fun z => absurd z (by decide)⟩))
  · rw [er] at hE
    exact hE kk aa _ rfl w5 (F2.tr F5.rl) a5 b5 ((F5.2.2 14 (by decide) (by decide) (by decide) (fun _ => by decide) (fun _ => ⟨by decide, by decide⟩)).trans n14)
  · rw [er] at hE hV
    have hq := sBar_q (Nat.zero_le _) er
    exact l240 hT (l.length + 1) q5 m5 0 w5 (by omega) hq.2 (Nat.zero_le _) (F2.tr F5.rl) a5 ((F5.2.2 14 (by decide) (by decide) (by decide) (fun _ => by decide) (fun _ => ⟨by decide, by decide⟩)).trans n14) ((F5.2.2 12 (by decide) (by decide) (by decide) (fun _ => by decide) (fun z => by cases z)).trans n12) M5 hE hV
theorem c242 (hs : Sh w) (hT : MTx w l) (hM : MR w m) (hH : HM w H n) (hE : ∀ kk aa ss, sLoad l = .inl (kk, aa, ss) → ∀ w2, LMF w w2 → gI w2 169 0 = 0 → gI w2 169 12 = kk → gI w2 169 15 = (ss : Nat) → MR w2 m → HM w2 H n → MTx w2 [] → Q (.inl (some (iv (-100 - (aa : Nat))))) w2) (hV : ∀ m2, sLoad l = .inr m2 → ∀ w2, LMF w w2 → gI w2 169 0 = 0 → gI w2 169 12 = 0 → gI w2 169 15 = -1 → MR w2 m2 → (∀ G, HM w2 G 0) → MTx w2 [] → Q (.inl (some (iv (m2 5)))) w2) : pC 242 [.ref 169] w Q := by
  refine e242 hs (fun w1 e1 w2 e2 w3 e3 => ?_)
  obtain ⟨s1, v1, -, k1⟩ := stI e1 hs (by omega) (slt_o tbC_169 rfl) bd0
  obtain ⟨s2, v2, -, k2⟩ := stI e2 s1 (by omega) (slt_o tbC_169 rfl) bd0
  obtain ⟨s3, v3, -, k3⟩ := stI e3 s2 (by omega) (slt_o tbC_169 rfl) ⟨by decide, by decide⟩
  have kk3 : ∀ c, c ≠ 169 → w3.2.2 c = w.2.2 c := fun c hc => (k3 c hc).trans ((k2 c hc).trans (k1 c hc))
  have j3 : ∀ j, j ≠ 0 → j ≠ 12 → j ≠ 15 → gI w3 169 j = gI w 169 j := fun j a b c => by rw [v3, if_neg (by omega), v2, if_neg (by omega), v1, if_neg (by omega)]
  have t3 : gI w3 169 0 = 0 := by rw [v3, if_neg (by omega), v2, if_neg (by omega), v1, if_pos ⟨rfl, rfl⟩]
  have z3 : gI w3 169 12 = 0 := by rw [v3, if_neg (by omega), v2, if_pos ⟨rfl, rfl⟩]
  have y3 : gI w3 169 15 = -1 := by rw [v3, if_pos ⟨rfl, rfl⟩]
  have M3 : MR w3 m := hM.cell (kk3 170 (by decide))
  refine c219 s3 M3 (fun w4 F4 t4 hA => ⟨F4.1, ?_⟩)
  have T4 : MTx w4 l := ⟨(F4.2.2.2.2.1.trans (j3 8 (by decide) (by decide) (by decide))).trans hT.1, hT.2.1, fun k hk => by rw [gI_cell (F4.2.1 175 (by decide) (by decide)), gI_cell (kk3 175 (by decide))]; exact hT.2.2 k hk⟩
  have z4 : gI w4 169 12 = 0 := F4.2.2.2.2.2.1.trans z3
  have kk4 : ∀ c, ¬ (169 ≤ c ∧ c ≤ 171) → ¬ (176 ≤ c ∧ c ≤ 178) → w4.2.2 c = w.2.2 c := fun c a b => (F4.2.1 c a b).trans (kk3 c (by omega))
  have m4 : gI w4 169 6 = gI w 169 6 := F4.2.2.2.1.trans (j3 6 (by decide) (by decide) (by decide))
  have n4 : gI w4 169 30 = gI w 169 30 := F4.2.2.2.2.2.2.2.trans (j3 30 (by decide) (by decide) (by decide))
  refine c240 F4.1 T4 z4 (fun kk aa ss er w6 F6 a6 b6 c6 => kI_iv bd0 ⟨F6.1, fun w8 e8 => ⟨fun z => absurd rfl z, fun _ w11 e11 => ?_⟩⟩) (fun m2 er w6 F6 a6 M6 => kI_iv (by decide) ⟨F6.1, fun w8 e8 => ⟨fun _ w10 e10 => ?_, fun z => absurd z (by decide)⟩⟩)
  · obtain ⟨s8, v8, -, k8⟩ := stI e8 F6.1 (by omega) (slt_o tbC_169 rfl) bd0
    rw [v8, if_neg (by omega), c6] at e11
    obtain ⟨s11, v11, -, k11⟩ := stI e11 s8 (by omega) (slt_o tbC_169 rfl) (by have := bd_gI w6 169 14; rw [c6] at this; exact this)
    have kB : ∀ c, c ≠ 169 → c ≠ 170 → w11.2.2 c = w4.2.2 c := fun c a b => (k11 c a).trans ((k8 c a).trans (F6.2.1 c a b))
    have jB : ∀ j, j ≠ 8 → j ≠ 15 → gI w11 169 j = gI w6 169 j := fun j a b => by rw [v11, if_neg (by omega), v8, if_neg (by omega)]
    have hA11 : AS w11 m := fun j hj => by rw [gI_cell (kB 171 (by decide) (by decide))]; exact hA j hj
    rw [jB 13 (by decide) (by decide), b6]
    have hbd : bd (-100 - (aa : Int)) := by
      have h1 := sLoad_e er
      have h2 := hT.2.1
      exact ⟨by omega, by omega⟩
    refine c241 s11 hbd hA11 hM.ok (fun w12 G12 M12 => kI_iv hbd ⟨G12.1, ?_⟩)
    refine hE kk aa ss er w12 ⟨G12.1, fun c a b => (G12.2.1 c a b).trans ((kB c (by omega) (by omega)).trans (kk4 c a b)), ?_⟩ ?_ ?_ ?_ M12 ⟨?_, hH.2.1, fun j k hj hk => ?_⟩ ⟨?_, Nat.zero_le _, fun k hk => absurd hk (Nat.not_lt_zero k)⟩
    · exact G12.2.2.1.2.2.2.2.1.trans ((jB 30 (by decide) (by decide)).trans ((F6.2.2 30 (by omega)).trans n4))
    · exact G12.2.2.1.2.2.2.2.2.trans ((jB 0 (by decide) (by decide)).trans ((F6.2.2 0 (by omega)).trans (t4.trans t3)))
    · exact G12.2.2.1.2.2.1.trans ((jB 12 (by decide) (by decide)).trans a6)
    · exact G12.2.2.1.2.2.2.1.trans (by rw [v11, if_pos ⟨rfl, rfl⟩])
    · exact (G12.2.2.1.1.trans ((jB 6 (by decide) (by decide)).trans ((F6.2.2 6 (by omega)).trans m4))).trans hH.1
    · rw [gI_cell (G12.2.1 174 (by decide) (by decide)), gI_cell (kB 174 (by decide) (by decide)), gI_cell (kk4 174 (by decide) (by decide))]
      exact hH.2.2 j k hj hk
    · exact G12.2.2.1.2.1.trans (by rw [v11, if_neg (by omega), v8, if_pos ⟨rfl, rfl⟩]; rfl)
  · obtain ⟨s8, v8, -, k8⟩ := stI e8 F6.1 (by omega) (slt_o tbC_169 rfl) bd0
    obtain ⟨s10, v10, -, k10⟩ := stI e10 s8 (by omega) (slt_o tbC_169 rfl) bd0
    have M10 : MR w10 m2 := (M6.cell (k8 170 (by decide))).cell (k10 170 (by decide))
    have jB : ∀ j, j ≠ 8 → j ≠ 6 → gI w10 169 j = gI w6 169 j := fun j a b => by rw [v10, if_neg (by omega), v8, if_neg (by omega)]
    rw [M10.g (k := 5) rfl]
    refine hV m2 er w10 ⟨s10, fun c a b => (k10 c (by omega)).trans ((k8 c (by omega)).trans ((F6.2.1 c (by omega) (by omega)).trans (kk4 c a b))), ?_⟩ ?_ ?_ ?_ M10 (fun G => ⟨?_, Nat.zero_le _, fun j k hj => absurd hj (Nat.not_lt_zero _)⟩) ⟨?_, Nat.zero_le _, fun k hk => absurd hk (Nat.not_lt_zero k)⟩
    · exact (jB 30 (by decide) (by decide)).trans ((F6.2.2 30 (by omega)).trans n4)
    · exact (jB 0 (by decide) (by decide)).trans ((F6.2.2 0 (by omega)).trans (t4.trans t3))
    · exact (jB 12 (by decide) (by decide)).trans a6
    · exact (jB 15 (by decide) (by decide)).trans ((F6.2.2 15 (by omega)).trans (F4.2.2.2.2.2.2.1.trans y3))
    · rw [v10, if_pos ⟨rfl, rfl⟩]; rfl
    · rw [v10, if_neg (by omega), v8, if_pos ⟨rfl, rfl⟩]; rfl
theorem tL_shr {x : Int64} {n k : Nat} (h : n + k < 64) : tL (lShr x (n : Nat)) k = tL x (n + k) := by
  unfold lShr tL
  rw [Int64.toBitVec_shiftRight]
  show (x.toBitVec.sshiftRight (((Int32.ofInt (n : Int)).toInt64 &&& 63).toBitVec.smod 64).toNat).getLsbD k = _
  rw [tL_s64 n (by omega), BitVec.getLsbD_sshiftRight, if_pos h, decide_eq_false (by omega)]
  rfl
theorem tL_255 : ∀ k, k < 64 → tL 255 k = decide (k < 8) := by decide +kernel
theorem shr_ush (y : Int64) {k : Nat} (hk : k < 8) : lShr y (8 * (k : Int)) &&& 255 = lUsh y (8 * k : Nat) &&& 255 := by
  rw [show 8 * (k : Int) = ((8 * k : Nat) : Int) from by omega]
  refine tL_ext (fun i hi => ?_)
  rw [tL_and, tL_and, tL_255 i hi]
  by_cases q : i < 8
  · rw [tL_shr (by omega), tL_ush ⟨by omega, by omega⟩, Int.toNat_natCast]
  · rw [decide_eq_false q, Bool.and_false, Bool.and_false]
theorem bDn_cnt (y : Int64) : ∀ n, (bDn y n).length = cnt (fun j => decide (bN y j ≠ 0)) n := by
  intro n
  induction n with
  | zero => rfl
  | succ n ih =>
    show ((if bN y n = 0 then [] else [bN y n]) ++ bDn y n).length = _
    rw [List.length_append, ih]
    by_cases q : bN y n = 0
    · rw [if_pos q, cnt_f (decide_eq_false (fun z => z q))]
      exact Nat.zero_add _
    · rw [if_neg q, cnt_t (decide_eq_true q)]
      exact Nat.add_comm 1 _
theorem MTx.put {w3 : PW} {z : Nat} (hT : MTx w l) (hs : Sh w) (h7 : l.length < 700) (hz : z < 256) (e2 : w2 = sI w 175 l.length (sgB z)) (e3 : w3 = sI w2 169 8 (gI w2 169 8 + 1)) : MTx w3 (l ++ [z]) ∧ APF w w3 ∧ gI w3 169 0 = gI w 169 0 := by
  obtain ⟨h1, h2, h3⟩ := hT
  obtain ⟨s2, g2, -, k2⟩ := stI e2 hs (by omega) (slt_a tbC_175) (sgB_bd hz)
  rw [g2, if_neg (by omega), h1] at e3
  obtain ⟨s3, g3, -, k3⟩ := stI e3 s2 (by omega) (slt_o tbC_169 rfl) ⟨by omega, by omega⟩
  refine ⟨⟨?_, ?_, fun k hk => ?_⟩, ⟨s3, fun c a b => (k3 c a).trans (k2 c b), fun j a b => by rw [g3, if_neg (by omega), g2, if_neg (by omega)]⟩, by rw [g3, if_neg (by omega), g2, if_neg (by omega)]⟩
  · rw [g3, if_pos ⟨rfl, rfl⟩, List.length_append]; rfl
  · rw [List.length_append]; exact h7
  · rw [List.length_append] at hk
    have hk2 : k < l.length + 1 := hk
    rw [g3, if_neg (by omega), g2]
    by_cases q : k = l.length
    · subst q
      rw [if_pos ⟨rfl, rfl⟩, gtD_e]
      exact ⟨rfl, hz⟩
    · rw [if_neg (fun x => q x.2), gtD_l (by omega)]
      exact h3 k (by omega)
theorem APF.rf (hs : Sh w) : APF w w := ⟨hs, fun _ _ _ => rfl, fun _ _ _ => rfl⟩
theorem APF.tr (h1 : APF w w1) (h2 : APF w1 w2) : APF w w2 := ⟨h2.1, fun c a b => (h2.2.1 c a b).trans (h1.2.1 c a b), fun j a b => (h2.2.2 j a b).trans (h1.2.2 j a b)⟩
theorem l218_66 {x3 : Int} (hx3 : bd x3) (hl : (l ++ bDn y 8).length ≤ 700) (h : ∀ w2, APF w w2 → gI w2 169 0 = gI w 169 0 → MTx w2 (l ++ bDn y 8) → Q (.inl (some (iv ((l ++ bDn y 8).length : Nat)))) w2) : ∀ (n : Nat) (w1 : PW) (t : List Nat) (o5 o6 : Option Value), n ≤ 8 → APF w w1 → gI w1 169 0 = gI w 169 0 → MTx w1 t → t ++ bDn y n = l ++ bDn y 8 → pc2 o6 = false → pX 218 66 [some (.ref 169), some (.long y), none, some (iv x3), some (iv ((n : Int) - 1)), o5, o6] [] w1 Q := by
  intro n
  induction n with
  | zero =>
    intro w1 t o5 o6 hn F1 t1 hT ht h6
    rw [show bDn y 0 = [] from rfl, List.append_nil] at ht
    refine v218_66 F1.1 hx3 ⟨by omega, by omega⟩ h6 ⟨fun _ => ?_, fun q => by omega⟩
    rw [hT.1, ht]
    rw [ht] at hT
    exact h w1 F1 t1 hT
  | succ n ih =>
    intro w1 t o5 o6 hn F1 t1 hT ht h6
    have hbl : ∀ k, bDn y (k + 1) = (if bN y k = 0 then [] else [bN y k]) ++ bDn y k := fun _ => rfl
    rw [hbl n] at ht
    rw [show (((n + 1 : Nat) : Int) - 1) = (n : Int) from by omega]
    refine v218_66 F1.1 hx3 (bdk (by omega)) h6 ⟨fun q => by omega, fun _ => ?_⟩
    rw [shr_ush y (by omega), bN_l2I, show (n : Int) + (-1) = (n : Int) - 1 from by omega]
    have hb := bN_lt y n
    refine ⟨fun q => ?_, fun q => ?_⟩
    · rw [if_neg (fun z => q ((bN_cmp y n).mpr z))] at ht
      have hl2 : t.length + 1 ≤ 700 := by
        have := congrArg List.length ht
        rw [List.length_append, List.length_append] at this
        have h1 : [bN y n].length = 1 := rfl
        omega
      rw [hT.1, sgB_i _ hb, Int.toNat_natCast]
      refine ⟨⟨by omega, by omega⟩, sgB_n _ hb, fun w4 e4 w5 e5 => ?_⟩
      obtain ⟨T5, F5, t5⟩ := hT.put F1.1 (by omega) hb e4 e5
      exact ih w5 (t ++ [bN y n]) _ none (by omega) (F1.tr F5) (t5.trans t1) T5 (by rw [List.append_assoc]; exact ht) rfl
    · rw [if_pos ((bN_cmp y n).mp q), List.nil_append] at ht
      exact ih w1 t _ none (by omega) F1 t1 hT ht rfl
theorem l218_10 (hs : Sh w) (hT : MTx w l) (h0 : ¬ (l ++ bDn y 8).length ≤ 700 → Q (.inl (some (iv (-2)))) w) (h : (l ++ bDn y 8).length ≤ 700 → ∀ w2, APF w w2 → gI w2 169 0 = gI w 169 0 → MTx w2 (l ++ bDn y 8) → Q (.inl (some (iv ((l ++ bDn y 8).length : Nat)))) w2) : ∀ n i : Nat, i + n = 8 → ∀ o5 o6 : Option Value, pc2 o5 = false → pc2 o6 = false → pX 218 10 [some (.ref 169), some (.long y), none, some (iv (cnt (fun j => decide (bN y j ≠ 0)) i : Nat)), some (iv (i : Nat)), o5, o6] [] w Q := by
  have h8 := bDn_len y 8
  have hl := hT.2.1
  intro n
  induction n with
  | zero =>
    intro i hi o5 o6 h5 h6
    have hc := cnt_le (fun j => decide (bN y j ≠ 0)) i
    have ei : i = 8 := by omega
    subst ei
    have hb := bDn_cnt y 8
    refine v218_10 hs (bdk (by omega)) (by decide) h5 h6 ⟨fun _ => ?_, fun q => by omega⟩
    rw [hT.1]
    rw [List.length_append] at h0 h
    refine ⟨⟨by omega, by omega⟩, fun q => ?_, fun q => h0 (by omega)⟩
    exact l218_66 (w := w) (l := l) (y := y) (Q := Q) (bdk (by omega)) (by rw [List.length_append]; omega) (fun w2 A2 t2 T2 => by have := h (by omega) w2 A2 t2 T2; rw [List.length_append]; exact this) 8 w l o5 o6 (Nat.le_refl _) (APF.rf hs) rfl hT rfl h6
  | succ n ih =>
    intro i hi o5 o6 h5 h6
    have hc := cnt_le (fun j => decide (bN y j ≠ 0)) i
    have := ih (i + 1) (by omega) o5 o6 h5 h6
    refine v218_10 hs (bdk (by omega)) (bdk (by omega)) h5 h6 ⟨fun q => by omega, fun _ => ?_⟩
    rw [shr_ush y (by omega)]
    refine ⟨fun q => ?_, fun q => ?_⟩
    · rw [cnt_t (P := fun j => decide (bN y j ≠ 0)) (decide_eq_true (p := bN y i ≠ 0) (fun z => q ((bN_cmp y i).mpr z)))] at this
      exact this
    · rw [cnt_f (P := fun j => decide (bN y j ≠ 0)) (decide_eq_false (p := bN y i ≠ 0) (fun z => z ((bN_cmp y i).mp q)))] at this
      exact this
theorem c218 (hs : Sh w) (hT : MTx w l) (h0 : ¬ (l ++ bDn y 8).length ≤ 700 → ∀ w2, MqF w w2 → gI w2 169 0 = 0 → Q (.inl (some (iv (-2)))) w2) (h : (l ++ bDn y 8).length ≤ 700 → ∀ w2, APF w w2 → gI w2 169 0 = 0 → MTx w2 (l ++ bDn y 8) → Q (.inl (some (iv ((l ++ bDn y 8).length : Nat)))) w2) : pC 218 [.ref 169, .long y] w Q := by
  refine e218 hs (fun w1 e1 => ?_)
  obtain ⟨F1, g1⟩ := MqF.th hs e1 bd0
  obtain ⟨k1, j1⟩ := MqF.th0 hs e1 bd0
  have T1 : MTx w1 l := ⟨(j1 8 (by decide)).trans hT.1, hT.2.1, fun k hk => by rw [gI_cell (k1 175 (by decide))]; exact hT.2.2 k hk⟩
  have A1 : APF w w1 := ⟨F1.1, fun c a _ => k1 c a, fun j a _ => j1 j a⟩
  exact l218_10 F1.1 T1 (fun z => h0 z w1 F1 g1) (fun z w2 A2 t2 T2 => h z w2 (A1.tr A2) (t2.trans g1) T2) 8 0 rfl none none rfl rfl
end MLE
