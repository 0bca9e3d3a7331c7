/-! CELLS AND SLOTS are made together -/
def SL (v v' : PW) : Prop := (v'.1 = v.1 ∧ v'.2.1 = v.2.1) ∨ v.1 < v'.1
theorem SL.rf {v : PW} : SL v v := Or.inl ⟨rfl, rfl⟩
theorem SL.tr {v v1 v2 : PW} (h1 : SL v v1) (h2 : SL v1 v2) : SL v v2 := by
  unfold SL at *
  omega
section SLS
variable {v v' : PW} {M ln : Nat} {i : Instr} {S S' : List Value}
theorem pld_sl (h : pld M i S v = some (ln, S', v')) : v' = v := by
  unfold pld at h
  split at h
  all_goals repeat' split at h
  all_goals first
    | (cases h; done)
    | (cases h; rfl)
theorem ppf_sl {a ci k : Nat} {y : Value} (h : ppf v a ci k y = some v') : v'.1 = v.1 ∧ v'.2.1 = v.2.1 := by
  unfold ppf at h
  split at h
  · split at h
    · cases h
      exact ⟨rfl, rfl⟩
    · cases h
  · cases h
theorem psw_sl (h : psw M i S v = some (ln, S', v')) : SL v v' := by
  unfold psw at h
  split at h
  all_goals repeat' split at h
  all_goals first
    | (cases h; done)
    | (cases h; exact Or.inl ⟨rfl, rfl⟩)
    | (cases h; exact Or.inr (Nat.lt_succ_self _))
    | (rename_i e; cases h; exact Or.inl (ppf_sl e))
theorem pcpy_sl {a0 a : Nat} {sp dp m : Int32} (h : pcpy v a0 a sp dp m = some v') : SL v v' := by
  unfold pcpy at h
  repeat' split at h
  all_goals first
    | (cases h; done)
    | (cases h; exact Or.inl ⟨rfl, rfl⟩)
theorem pnat_sl {k : Nat} (h : pnat M k S v = some (S', v')) : SL v v' := by
  unfold pnat at h
  split at h
  all_goals repeat' split at h
  all_goals first
    | (cases h; done)
    | (cases h; exact SL.rf)
    | (rename_i e; cases h; exact pcpy_sl e)
theorem pna_sl (h : pna M i S v = some (S', v')) : SL v v' := by
  unfold pna at h
  split at h
  all_goals repeat' split at h
  all_goals first
    | (cases h; done)
    | exact pnat_sl h
def zW : PF ⊕ PR → PW
  | .inl c => c.2.2.2
  | .inr r => r.2
theorem px_sl {call : Nat → List Value → PW → Option PR} (hc : ∀ M' av v r, call M' av v = some r → SL v r.2) {c : PF} {z : PF ⊕ PR} (h : px call M c = some z) : SL c.2.2.2 (zW z) := by
  unfold px at h
  split at h
  · cases h
  · split at h
    · repeat' split at h
      all_goals first
        | (cases h; done)
        | (cases h; exact SL.rf)
    · unfold pjp at h
      repeat' split at h
      all_goals first
        | (cases h; done)
        | (cases h; exact SL.rf)
    · split at h
      · rename_i e
        split at h
        · cases h
          show SL _ _
          rw [pld_sl e]
          exact SL.rf
        · cases h
      · cases h
    · split at h
      · rename_i e
        split at h
        · cases h
          exact psw_sl e
        · cases h
      · cases h
    · repeat' split at h
      all_goals first
        | (cases h; done)
        | (cases h; exact SL.rf)
    · split at h
      · split at h
        · rename_i M' args rest e
          cases hr : call M' args c.2.2.2 with
          | none => rw [hr] at h; cases h
          | some r =>
            have h3 := hc M' args _ r hr
            rw [hr] at h
            obtain ⟨o, v2⟩ := r
            cases o with
            | inl x =>
              cases h
              exact h3
            | inr E =>
              unfold pac at h
              dsimp only at h
              repeat' split at h
              all_goals first
                | (cases h; done)
                | (cases h; exact h3)
        · split at h
          · rename_i e
            cases h
            exact pna_sl e
          · cases h
      · cases h
    · split at h
      · split at h
        · rename_i e
          split at h
          · cases h
            exact psw_sl e
          · cases h
        · split at h
          · cases h
            exact SL.rf
          · cases h
      · cases h
theorem pex_sl {call : Nat → List Value → PW → Option PR} (hc : ∀ M' av v r, call M' av v = some r → SL v r.2) {r : PR} : ∀ (n : Nat) (c : PF), pex call n M c = some r → SL c.2.2.2 r.2 := by
  intro n
  induction n with
  | zero => intro c h; cases h
  | succ n ih =>
    intro c h
    unfold pex at h
    cases hx : px call M c with
    | none => rw [hx] at h; cases h
    | some z =>
      have h1 := px_sl hc hx
      rw [hx] at h
      cases z with
      | inl c' => exact SL.tr h1 (ih c' h)
      | inr r2 =>
        cases h
        exact h1
theorem prun_sl : ∀ (n M : Nat) (av : List Value) (v : PW) (r : PR), prun n M av v = some r → SL v r.2 := by
  intro n
  induction n with
  | zero => intro M av v r h; cases h
  | succ n ih =>
    intro M av v r h
    unfold prun at h
    split at h
    · exact pex_sl ih (n + 1) _ h
    · cases h
theorem lex_sl {r : PR} {q : Nat} : ∀ (n j : Nat) (c : PF), lex (prun q) n j M c = some r → SL c.2.2.2 r.2 := by
  intro n
  induction n with
  | zero => intro j c h; cases h
  | succ n ih =>
    intro j c h
    unfold lex at h
    split at h
    · cases j with
      | zero => cases h
      | succ j => exact ih j (28, c.2) h
    · cases hx : px (prun q) M c with
      | none => rw [hx] at h; cases h
      | some z =>
        have h1 := px_sl (prun_sl q) hx
        rw [hx] at h
        cases z with
        | inl c' => exact SL.tr h1 (ih j c' h)
        | inr r2 =>
          cases h
          exact h1
end SLS
/-- the law's loop makes nothing -/
theorem yX_sl {j pc : Nat} {L : PL} {S : List Value} {w : PW} (h1 : w.1 = pNA) (h : yX j 355 pc L S w QL) : yX j 355 pc L S w (fun o w2 => QL o w2 ∧ w2.2.1 = w.2.1) := by
  obtain ⟨n, r, hr, hq⟩ := h
  refine ⟨n, r, hr, hq, ?_⟩
  have h2 := lex_sl n j _ hr
  have h3 : r.2.1 = pNA := hq.2.1
  rcases h2 with z | z
  · exact z.2
  · have z : w.1 < r.2.1 := z
    omega
/-! THE CONSTRUCTORS, run by the kernel over cells that don't change -/
def cDF : va_E := .inr (99, [])
def z0 : PW := (0, 0, fun c => if c < 182 then cDF else .inr (12345, []))
def z8 : PW := pnw z0 10 (.inr (7, oF 7))
def z216 : PW := (170, 0, fun c => if c = 169 then .inr (8, oF 8) else if c < 169 ∨ 182 ≤ c then .inr (12345, []) else cDF)
def isDF (e : va_E) : Bool := match e with
  | .inr (99, []) => true
  | _ => false
theorem isDF_e {e : va_E} (h : isDF e = true) : e = cDF := by
  unfold isDF at h
  split at h
  · rfl
  · cases h
def chk8 (r : Option PR) : Bool := match r with
  | some (.inl none, w) => decide (w.1 = 169) && (decide (w.2.1 ≤ 10000) && ((List.range 169).all (fun a => decide (shp (w.2.2 a) = tb a)) && ((List.range 13).all (fun a => isDF (w.2.2 (169 + a))) &&
     (decide (gI w 1 0 = 8 ∧ gI w 1 1 = 1 ∧ gI w 1 2 = 0 ∧ gI w 1 3 = 1 ∧ gI w 1 4 = 0) && (decide (gI w 5 0 = 0) &&
     ((List.range 5).all (fun k => decide (gI w 9 k = 0)) && ((List.range 36).all (fun k => decide (gL w 4 k = 0)) &&
     (decide (gI w 27 1 = 0 ∧ gI w 27 2 = 0) && (decide (gI w 135 1 = 0 ∧ gI w 137 1 = 0) && (decide (gI w 134 0 = 0 ∧ gI w 134 1 = 0) && decide (gI w 0 8 = 0 ∧ gI w 0 9 = -1)))))))))))
  | _ => false
/-- what stands behind PinBarrel's constructor -/
def P8 (w : PW) : Prop := w.1 = 169 ∧ w.2.1 ≤ 10000 ∧ (∀ a, a < 169 → shp (w.2.2 a) = tb a) ∧ (∀ a, a < 13 → w.2.2 (169 + a) = cDF) ∧
  (gI w 1 0 = 8 ∧ gI w 1 1 = 1 ∧ gI w 1 2 = 0 ∧ gI w 1 3 = 1 ∧ gI w 1 4 = 0) ∧ gI w 5 0 = 0 ∧ (∀ k, k < 5 → gI w 9 k = 0) ∧ (∀ k, k < 36 → gL w 4 k = 0) ∧
  (gI w 27 1 = 0 ∧ gI w 27 2 = 0) ∧ (gI w 135 1 = 0 ∧ gI w 137 1 = 0) ∧ (gI w 134 0 = 0 ∧ gI w 134 1 = 0) ∧ (gI w 0 8 = 0 ∧ gI w 0 9 = -1)
theorem all_r {n : Nat} {f : Nat → Bool} (h : (List.range n).all f = true) : ∀ k, k < n → f k = true := fun k hk => List.all_eq_true.mp h k (List.mem_range.mpr hk)
theorem chk8_e {r : Option PR} (h : chk8 r = true) : ∃ w, r = some (.inl none, w) ∧ P8 w := by
  unfold chk8 at h
  split at h
  · rename_i w
    simp only [Bool.and_eq_true] at h
    obtain ⟨h1, h2, h3, h4, h5, h6, h7, h8, h9, h10, h11, h12⟩ := h
    exact ⟨w, rfl, of_decide_eq_true h1, of_decide_eq_true h2, fun a ha => of_decide_eq_true (all_r h3 a ha), fun a ha => isDF_e (all_r h4 a ha), of_decide_eq_true h5, of_decide_eq_true h6, fun k hk => of_decide_eq_true (all_r h7 k hk), fun k hk => of_decide_eq_true (all_r h8 k hk), of_decide_eq_true h9, of_decide_eq_true h10, of_decide_eq_true h11, of_decide_eq_true h12⟩
  · cases h
theorem k8 : chk8 (prun 300 8 [.ref 0] z8) = true := by decide +kernel
/-- steps without calls -/
def stn : Nat → Nat → PF → Option PF
  | 0, _, c => some c
  | n + 1, M, c => match px (fun _ _ _ => none) M c with
    | some (.inl c') => stn n M c'
    | _ => none
theorem stn_X {M : Nat} {Q : PO → PW → Prop} {c' : PF} : ∀ (n pc : Nat) (L : PL) (S : List Value) (w : PW), stn n M (pc, L, S, w) = some c' → pX M c'.1 c'.2.1 c'.2.2.1 c'.2.2.2 Q → pX M pc L S w Q := by
  intro n
  induction n with
  | zero =>
    intro pc L S w h hq
    cases h
    exact hq
  | succ n ih =>
    intro pc L S w h hq
    unfold stn at h
    cases hx : px (fun _ _ _ => none) M (pc, L, S, w) with
    | none => rw [hx] at h; cases h
    | some z =>
      rw [hx] at h
      cases z with
      | inr r => cases h
      | inl c2 =>
        obtain ⟨pc2, L2, S2, w2⟩ := c2
        have hq2 := ih pc2 L2 S2 w2 h hq
        rw [pX_step (fun call => px_mono (fun _ _ _ _ z => by cases z) hx) Q]
        exact hq2
theorem stn_fr {M : Nat} {P : Nat → Bool} {G : Nat → va_E} {d : Nat} {c' : PF} : ∀ (n pc : Nat) (L : PL) (S : List Value) (v : PW), IW P v → stn n M (pc, L, S, v) = some c' → stn n M (pc, L, S, TW P G d v) = some (c'.1, c'.2.1, c'.2.2.1, TW P G d c'.2.2.2) ∧ IW P c'.2.2.2 := by
  intro n
  induction n with
  | zero =>
    intro pc L S v hI h
    cases h
    exact ⟨rfl, hI⟩
  | succ n ih =>
    intro pc L S v hI h
    unfold stn at h ⊢
    cases hx : px (fun _ _ _ => none) M (pc, L, S, v) with
    | none => rw [hx] at h; cases h
    | some z =>
      rw [hx] at h
      obtain ⟨h1, h2⟩ := px_fr (G := G) (d := d) (c2 := fun _ _ _ => none) (fun _ _ _ _ _ z => by cases z) hI hx
      rw [h1]
      cases z with
      | inr r => cases h
      | inl c2 => exact ih c2.1 c2.2.1 c2.2.2.1 c2.2.2.2 h2 h
def chk216 (r : Option PF) : Bool := match r with
  | some (pc, L, S, w) => decide (pc = 99 ∧ L = [some (.ref 169)] ∧ S = [iv 0, iv 1, iv 8, .ref 169] ∧ w.1 = 180 ∧ w.2.1 ≤ 20000) && ((List.range 11).all (fun a => decide (shp (w.2.2 (169 + a)) = tb (169 + a))) && ((List.range 2).all (fun a => isDF (w.2.2 (180 + a))) &&
     (decide (pgf w 169 8 1 = some (.ref 170)) && (isOb w 169 8 && ((List.range 843).all (fun k => decide (gI w 170 k = 0)) &&
     (decide (gI w 169 6 = 0 ∧ gI w 169 8 = 0 ∧ gI w 169 12 = 0 ∧ gI w 169 15 = -1 ∧ gI w 169 30 = 0) && decide (gI w 173 0 = 0 ∧ gI w 173 1 = 0)))))))
  | _ => false
/-- what stands before the model begins -/
def P216 (w : PW) : Prop := (w.1 = 180 ∧ w.2.1 ≤ 20000) ∧ (∀ a, a < 11 → shp (w.2.2 (169 + a)) = tb (169 + a)) ∧ (∀ a, a < 2 → w.2.2 (180 + a) = cDF) ∧ pgf w 169 8 1 = some (.ref 170) ∧ isOb w 169 8 = true ∧ (∀ k, k < 843 → gI w 170 k = 0) ∧
  (gI w 169 6 = 0 ∧ gI w 169 8 = 0 ∧ gI w 169 12 = 0 ∧ gI w 169 15 = -1 ∧ gI w 169 30 = 0) ∧ (gI w 173 0 = 0 ∧ gI w 173 1 = 0)
theorem chk216_e {r : Option PF} (h : chk216 r = true) : ∃ w, r = some (99, [some (.ref 169)], [iv 0, iv 1, iv 8, .ref 169], w) ∧ P216 w := by
  unfold chk216 at h
  split at h
  · rename_i pc L S w
    simp only [Bool.and_eq_true] at h
    obtain ⟨h1, h2, h3, h4, h5, h6, h7, h8⟩ := h
    obtain ⟨rfl, rfl, rfl, g1, g2⟩ := of_decide_eq_true h1
    exact ⟨w, rfl, ⟨g1, g2⟩, fun a ha => of_decide_eq_true (all_r h2 a ha), fun a ha => isDF_e (all_r h3 a ha), of_decide_eq_true h4, h5, fun k hk => of_decide_eq_true (all_r h6 k hk), of_decide_eq_true h7, of_decide_eq_true h8⟩
  · cases h
theorem k216 : chk216 (stn 49 216 (0, [some (.ref 169)], [], z216)) = true := by decide +kernel
