/-! SOUNDNESS, 10: one step; whole runs -/
theorem ppf_w {w w' : PW} {a ci k : Nat} {v : Value} (h : ppf w a ci k v = some w') : w'.1 = w.1 ∧ w'.2.1 = w.2.1 := by
  unfold ppf at h
  split at h
  · split at h
    · cases h; exact ⟨rfl, rfl⟩
    · cases h
  · cases h
theorem pcpy_w {w w' : PW} {a0 a : Nat} {sp dp n : Int32} (h : pcpy w a0 a sp dp n = some w') : w'.1 = w.1 ∧ w'.2.1 = w.2.1 := by
  unfold pcpy at h
  repeat' split at h
  all_goals first | (cases h; exact ⟨rfl, rfl⟩) | cases h
theorem pld_w {M ln : Nat} {i : Instr} {S S' : List Value} {w w' : PW} (h : pld M i S w = some (ln, S', w')) : w' = w := by
  unfold pld at h
  repeat' split at h
  all_goals first | (cases h; rfl) | cases h
theorem psw_w {M ln : Nat} {i : Instr} {S S' : List Value} {w w' : PW} (h : psw M i S w = some (ln, S', w')) : w.1 ≤ w'.1 ∧ w.2.1 ≤ w'.2.1 := by
  unfold psw at h
  repeat' split at h
  all_goals first
    | (cases h; exact ⟨Nat.le_refl _, Nat.le_refl _⟩)
    | (cases h; exact ⟨Nat.le_succ _, Nat.le_add_right _ _⟩)
    | (rename_i hp; cases h; have := ppf_w hp; exact ⟨Nat.le_of_eq this.1.symm, Nat.le_of_eq this.2.symm⟩)
    | cases h
theorem pnat_w {M k : Nat} {S S' : List Value} {w w' : PW} (h : pnat M k S w = some (S', w')) : w'.1 = w.1 ∧ w'.2.1 = w.2.1 := by
  unfold pnat at h
  repeat' split at h
  all_goals first
    | (cases h; exact ⟨rfl, rfl⟩)
    | (rename_i hp; cases h; exact pcpy_w hp)
    | cases h
theorem pna_w {M : Nat} {i : Instr} {S S' : List Value} {w w' : PW} (h : pna M i S w = some (S', w')) : w'.1 = w.1 ∧ w'.2.1 = w.2.1 := by
  unfold pna at h
  repeat' split at h
  all_goals first
    | exact pnat_w h
    | cases h
theorem pcl_lt {M pc M' : Nat} {i : Instr} {S av rest : List Value} {w : PW} (hM : M < 356) (h : pcl M pc i S w = some (M', av, rest)) : M' < 355 ∧ pok M M' pc = true := by
  have hm := mC_lt M hM
  unfold pcl at h
  split at h
  · split at h
    · rename_i hl
      split at h
      · split at h
        · rename_i hc
          cases h
          exact ⟨(okM_all _ hm _ (plk_mem hl)).2.2.2, hc.1⟩
        · cases h
      · cases h
    · cases h
  · split at h
    · rename_i hl
      split at h
      · split at h
        · rename_i hc
          cases h
          exact ⟨(okM_all _ hm _ (plk_mem hl)).2.2.2, hc.1⟩
        · cases h
      · cases h
    · rename_i hl
      split at h
      · split at h
        · rename_i hc
          cases h
          exact ⟨(okM_all _ hm _ (plk_mem hl)).2.2.2, hc.1⟩
        · cases h
      · cases h
    · cases h
  · split at h
    · rename_i hl
      split at h
      · rename_i hc
        cases h
        exact ⟨(okM_all _ hm _ (plk_mem hl)).2.2.2, hc.1⟩
      · cases h
    · rename_i hl
      split at h
      · rename_i hc
        cases h
        exact ⟨(okM_all _ hm _ (plk_mem hl)).2.2.2, hc.1⟩
      · cases h
    · cases h
  · cases h
theorem pth_f {M pc E : Nat} {i : Instr} {S : List Value} {w : PW} (hM : M < 356) (h : pth M pc i S w = some E) : pNA ≤ w.1 ∧ 1 ≤ phi M pc ∧ (E = 1 ∨ E = 2) := by
  unfold pth at h
  split at h
  · split at h
    · rename_i hk
      split at h
      · rename_i hc
        cases h
        exact ⟨hc.1, hc.2.1, (okE_all _ (mC_lt M hM) _ (plk_mem hk)).1⟩
      · cases h
    · cases h
  · cases h
def xD (M pc pc' : Nat) (w w' : PW) : Nat := (w'.1 - w.1) + (if w'.1 < pNA then 0 else phi M pc - phi M pc')
def xE (M pc pc' : Nat) (w w' : PW) : Nat := (w'.2.1 - w.2.1) + (if w'.1 < pNA then 0 else 6 * (phi M pc - phi M pc'))
theorem phd_f {M pc E h loc ln : Nat} (hh : phd M pc E = some (h, loc, ln)) : ∃ row as bs, mH M = as ++ row :: bs ∧ (Nat.ble row.1 pc && Nat.blt pc row.2.1 && Nat.beq row.2.2.2.2.1 E) = true ∧ (∀ a ∈ as, (Nat.ble a.1 pc && Nat.blt pc a.2.1 && Nat.beq a.2.2.2.2.1 E) = false) ∧ h = row.2.2.1 ∧ loc = row.2.2.2.2.2.1 ∧ ln = row.2.2.2.2.2.2 := by
  unfold phd at hh
  split at hh
  · rename_i row hfind
    cases hh
    obtain ⟨hp, as, bs, hsp, has⟩ := List.find?_eq_some_iff_append.mp hfind
    refine ⟨row, as, bs, hsp, hp, fun a ha => ?_, rfl, rfl, rfl⟩
    have := has a ha
    cases hq : (Nat.ble a.1 pc && Nat.blt pc a.2.1 && Nat.beq a.2.2.2.2.1 E) with
    | false => rfl
    | true => rw [hq] at this; cases this
  · cases hh
theorem phd_n {M pc E : Nat} (hh : phd M pc E = none) : ∀ a ∈ mH M, (Nat.ble a.1 pc && Nat.blt pc a.2.1 && Nat.beq a.2.2.2.2.1 E) = false := by
  unfold phd at hh
  split at hh
  · cases hh
  · rename_i hfind
    intro a ha
    have := List.find?_eq_none.mp hfind a ha
    cases hq : (Nat.ble a.1 pc && Nat.blt pc a.2.1 && Nat.beq a.2.2.2.2.1 E) with
    | false => rfl
    | true => exact absurd hq this
theorem px_pos {call : Nat → List Value → PW → Option PR} {M pc pc' : Nat} {L L' : PL} {S S' : List Value} {w w' : PW} (hcall : ∀ M' av w r, M' < 355 → call M' av w = some r → pMon M' w r) (hM : M < 356) (h : px call M (pc, L, S, w) = some (.inl (pc', L', S', w'))) : w.1 ≤ w'.1 ∧ w.2.1 ≤ w'.2.1 ∧ phi M pc' ≤ phi M pc := by
  unfold px at h
  dsimp only at h
  split at h
  · cases h
  · rename_i i len hd
    split at h
    · split at h
      · split at h
        · cases h; exact ⟨Nat.le_refl _, Nat.le_refl _, phs_mono _ (Nat.le_add_right _ _)⟩
        · cases h
      · cases h
    · split at h
      · split at h
        · split at h
          · unfold pjp at h
            split at h
            · rename_i hj
              cases h; exact ⟨Nat.le_refl _, Nat.le_refl _, hj.2⟩
            · cases h
          · cases h; exact ⟨Nat.le_refl _, Nat.le_refl _, phs_mono _ (Nat.le_add_right _ _)⟩
        · cases h
      · cases h
    · split at h
      · rename_i hf
        split at h
        · have hw := pld_w hf
          cases h
          rw [hw]
          exact ⟨Nat.le_refl _, Nat.le_refl _, phs_mono _ (Nat.le_add_right _ _)⟩
        · cases h
      · cases h
    · split at h
      · rename_i hf
        split at h
        · have hw := psw_w hf
          cases h
          exact ⟨hw.1, hw.2, phs_mono _ (Nat.le_add_right _ _)⟩
        · cases h
      · cases h
    · split at h
      · split at h
        · cases h
        · cases h
      · cases h
    · split at h
      · split at h
        · rename_i M' av rest hcl
          obtain ⟨hlt, hok⟩ := pcl_lt hM hcl
          cases hcc : call M' av w with
          | none => rw [hcc] at h; unfold pac at h; cases h
          | some r =>
            have hg := hcall _ _ _ _ hlt hcc
            rw [hcc] at h
            obtain ⟨o, w1⟩ := r
            cases o with
            | inl v =>
              unfold pac at h
              cases h
              exact ⟨hg.1, hg.2.1, phs_mono _ (Nat.le_add_right _ _)⟩
            | inr E =>
              unfold pac at h
              dsimp only at h
              split at h
              · split at h
                · rename_i hh
                  cases h
                  exact ⟨hg.1, hg.2.1, phs_mono _ (by omega)⟩
                · cases h
              · cases h
        · split at h
          · rename_i hf
            have hw := pna_w hf
            cases h
            exact ⟨Nat.le_of_eq hw.1.symm, Nat.le_of_eq hw.2.symm, phs_mono _ (Nat.le_add_right _ _)⟩
          · cases h
      · cases h
    · split at h
      · split at h
        · rename_i hf
          split at h
          · have hw := psw_w hf
            cases h
            exact ⟨hw.1, hw.2, phs_mono _ (Nat.le_add_right _ _)⟩
          · cases h
        · split at h
          · cases h
          · cases h
      · cases h
theorem px_pos_r {call : Nat → List Value → PW → Option PR} {M pc : Nat} {L : PL} {S : List Value} {w w' : PW} {o : PO} (hcall : ∀ M' av w r, M' < 355 → call M' av w = some r → pMon M' w r) (hM : M < 356) (h : px call M (pc, L, S, w) = some (.inr (o, w'))) : w.1 ≤ w'.1 ∧ w.2.1 ≤ w'.2.1 ∧ ∀ E, o = .inr E → (E = 1 ∨ E = 2) ∧ 1 ≤ phi M pc := by
  unfold px at h
  dsimp only at h
  split at h
  · cases h
  · rename_i i len hd
    split at h
    · repeat' split at h
      all_goals cases h
    · split at h
      · split at h
        · split at h
          · unfold pjp at h
            split at h
            · cases h
            · cases h
          · cases h
        · cases h
      · cases h
    · repeat' split at h
      all_goals cases h
    · repeat' split at h
      all_goals cases h
    · split at h
      · split at h
        · cases h
          exact ⟨Nat.le_refl _, Nat.le_refl _, fun E hE => by cases hE⟩
        · cases h
      · cases h
    · split at h
      · split at h
        · rename_i M' av rest hcl
          obtain ⟨hlt, hok⟩ := pcl_lt hM hcl
          have p3 := (pok_eq hok).2.2
          cases hcc : call M' av w with
          | none => rw [hcc] at h; unfold pac at h; cases h
          | some r =>
            have hg := hcall _ _ _ _ hlt hcc
            rw [hcc] at h
            obtain ⟨o9, w1⟩ := r
            cases o9 with
            | inl v =>
              unfold pac at h
              cases h
            | inr E =>
              unfold pac at h
              dsimp only at h
              split at h
              · split at h
                · cases h
                · cases h
              · cases h
                refine ⟨hg.1, hg.2.1, fun E9 hE => ?_⟩
                have := hg.2.2 E9 hE
                exact ⟨this.1, by omega⟩
        · split at h
          · cases h
          · cases h
      · cases h
    · split at h
      · split at h
        · split at h
          · cases h
          · cases h
        · split at h
          · rename_i hf
            have hw := pth_f hM hf
            cases h
            exact ⟨Nat.le_refl _, Nat.le_refl _, fun E hE => by cases hE; exact ⟨hw.2.2, hw.2.1⟩⟩
          · cases h
      · cases h
theorem pex_pos {call : Nat → List Value → PW → Option PR} {M : Nat} (hcall : ∀ M' av w r, M' < 355 → call M' av w = some r → pMon M' w r) (hM : M < 356) {o : PO} {wf : PW} : ∀ (k pc : Nat) (L : PL) (S : List Value) (w : PW), pex call k M (pc, L, S, w) = some (o, wf) → w.1 ≤ wf.1 ∧ w.2.1 ≤ wf.2.1 ∧ ∀ E, o = .inr E → (E = 1 ∨ E = 2) ∧ 1 ≤ phi M pc := by
  intro k
  induction k with
  | zero => intro pc L S w h; cases h
  | succ k ih =>
    intro pc L S w h
    unfold pex at h
    cases hx : px call M (pc, L, S, w) with
    | none => rw [hx] at h; cases h
    | some z =>
      rw [hx] at h
      cases z with
      | inl c' =>
        obtain ⟨pc', L', S', w'⟩ := c'
        have h1 := px_pos hcall hM hx
        have h2 := ih pc' L' S' w' h
        refine ⟨Nat.le_trans h1.1 h2.1, Nat.le_trans h1.2.1 h2.2.1, fun E hE => ?_⟩
        have h3 := h2.2.2 E hE
        exact ⟨h3.1, Nat.le_trans h3.2 h1.2.2⟩
      | inr r =>
        cases h
        exact px_pos_r hcall hM hx
