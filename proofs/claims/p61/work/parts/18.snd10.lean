/-! SOUNDNESS, 10: one step; whole runs -/
theorem ppf_w {w w' : PW} {a ci k : Nat} {v : Value} (h : ppf w a ci k v = some w') : w'.1 = w.1 ∧ w'.2.1 = w.2.1 := by
  unfold ppf at h
  split at h
  · split at h
    · cases h; exact ⟨rfl, rfl⟩
    · cases h
  · cases h
theorem pcpy_w {w w' : PW} {a0 a : Nat} {sp dp n : Int32} (h : pcpy w a0 a sp dp n = some w') : w'.1 = w.1 ∧ w'.2.1 = w.2.1 := by
  unfold pcpy at h
  repeat' split at h
  all_goals first | (cases h; exact ⟨rfl, rfl⟩) | cases h
theorem pld_w {M ln : Nat} {i : Instr} {S S' : List Value} {w w' : PW} (h : pld M i S w = some (ln, S', w')) : w' = w := by
  unfold pld at h
  repeat' split at h
  all_goals first | (cases h; rfl) | cases h
theorem psw_w {M ln : Nat} {i : Instr} {S S' : List Value} {w w' : PW} (h : psw M i S w = some (ln, S', w')) : w.1 ≤ w'.1 ∧ w.2.1 ≤ w'.2.1 := by
  unfold psw at h
  repeat' split at h
  all_goals first
    | (cases h; exact ⟨Nat.le_refl _, Nat.le_refl _⟩)
    | (cases h; exact ⟨Nat.le_succ _, Nat.le_add_right _ _⟩)
    | (rename_i hp; cases h; have := ppf_w hp; exact ⟨Nat.le_of_eq this.1.symm, Nat.le_of_eq this.2.symm⟩)
    | cases h
theorem pnat_w {M k : Nat} {S S' : List Value} {w w' : PW} (h : pnat M k S w = some (S', w')) : w'.1 = w.1 ∧ w'.2.1 = w.2.1 := by
  unfold pnat at h
  repeat' split at h
  all_goals first
    | (cases h; exact ⟨rfl, rfl⟩)
    | (rename_i hp; cases h; exact pcpy_w hp)
    | cases h
theorem pna_w {M : Nat} {i : Instr} {S S' : List Value} {w w' : PW} (h : pna M i S w = some (S', w')) : w'.1 = w.1 ∧ w'.2.1 = w.2.1 := by
  unfold pna at h
  repeat' split at h
  all_goals first
    | exact pnat_w h
    | cases h
theorem pcl_lt {M pc M' : Nat} {i : Instr} {S av rest : List Value} {w : PW} (hM : M < pNM) (h : pcl M pc i S w = some (M', av, rest)) : M' < pNM ∧ pok M M' pc = true := by
  have hm := mC_lt M hM
  unfold pcl at h
  split at h
  · split at h
    · rename_i hl
      split at h
      · split at h
        · rename_i hc
          cases h
          exact ⟨(okM_all _ hm _ (plk_mem hl)).2.2.2, hc.1⟩
        · cases h
      · cases h
    · cases h
  · split at h
    · rename_i hl
      split at h
      · split at h
        · rename_i hc
          cases h
          exact ⟨(okM_all _ hm _ (plk_mem hl)).2.2.2, hc.1⟩
        · cases h
      · cases h
    · rename_i hl
      split at h
      · split at h
        · rename_i hc
          cases h
          exact ⟨(okM_all _ hm _ (plk_mem hl)).2.2.2, hc.1⟩
        · cases h
      · cases h
    · cases h
  · split at h
    · rename_i hl
      split at h
      · rename_i hc
        cases h
        exact ⟨(okM_all _ hm _ (plk_mem hl)).2.2.2, hc.1⟩
      · cases h
    · rename_i hl
      split at h
      · rename_i hc
        cases h
        exact ⟨(okM_all _ hm _ (plk_mem hl)).2.2.2, hc.1⟩
      · cases h
    · cases h
  · cases h
theorem px_pos {call : Nat → List Value → PW → Option PR} {M pc pc' : Nat} {L L' : PL} {S S' : List Value} {w w' : PW} (hcall : ∀ M' av w r, M' < pNM → call M' av w = some r → pMon w r) (hM : M < pNM) (h : px call M (pc, L, S, w) = some (.inl (pc', L', S', w'))) : w.1 ≤ w'.1 ∧ w.2.1 ≤ w'.2.1 := by
  unfold px at h
  dsimp only at h
  split at h
  · cases h
  · rename_i i len hd
    split at h
    · split at h
      · split at h
        · cases h; exact ⟨Nat.le_refl _, Nat.le_refl _⟩
        · cases h
      · cases h
    · split at h
      · split at h
        · split at h
          · unfold pjp at h
            split at h
            · rename_i hj
              cases h; exact ⟨Nat.le_refl _, Nat.le_refl _⟩
            · cases h
          · cases h; exact ⟨Nat.le_refl _, Nat.le_refl _⟩
        · cases h
      · cases h
    · split at h
      · rename_i hf
        split at h
        · have hw := pld_w hf
          cases h
          rw [hw]
          exact ⟨Nat.le_refl _, Nat.le_refl _⟩
        · cases h
      · cases h
    · split at h
      · rename_i hf
        split at h
        · have hw := psw_w hf
          cases h
          exact ⟨hw.1, hw.2⟩
        · cases h
      · cases h
    · split at h
      · split at h
        · cases h
        · cases h
      · cases h
    · split at h
      · split at h
        · rename_i M' av rest hcl
          obtain ⟨hlt, hok⟩ := pcl_lt hM hcl
          cases hcc : call M' av w with
          | none => rw [hcc] at h; unfold pac at h; cases h
          | some r =>
            have hg := hcall _ _ _ _ hlt hcc
            rw [hcc] at h
            obtain ⟨o, w1⟩ := r
            cases o with
            | inl v =>
              unfold pac at h
              cases h
              exact hg
            | inr E =>
              unfold pac at h
              dsimp only at h
              rw [phd_nil] at h
              cases h
        · split at h
          · rename_i hf
            have hw := pna_w hf
            cases h
            exact ⟨Nat.le_of_eq hw.1.symm, Nat.le_of_eq hw.2.symm⟩
          · cases h
      · cases h
    · split at h
      · split at h
        · rename_i hf
          split at h
          · have hw := psw_w hf
            cases h
            exact ⟨hw.1, hw.2⟩
          · cases h
        · split at h
          · cases h
          · cases h
      · cases h
theorem px_pos_r {call : Nat → List Value → PW → Option PR} {M pc : Nat} {L : PL} {S : List Value} {w w' : PW} {o : PO} (hcall : ∀ M' av w r, M' < pNM → call M' av w = some r → pMon w r) (hM : M < pNM) (h : px call M (pc, L, S, w) = some (.inr (o, w'))) : w.1 ≤ w'.1 ∧ w.2.1 ≤ w'.2.1 := by
  unfold px at h
  dsimp only at h
  split at h
  · cases h
  · rename_i i len hd
    split at h
    · repeat' split at h
      all_goals cases h
    · split at h
      · split at h
        · split at h
          · unfold pjp at h
            split at h
            · cases h
            · cases h
          · cases h
        · cases h
      · cases h
    · repeat' split at h
      all_goals cases h
    · repeat' split at h
      all_goals cases h
    · split at h
      · split at h
        · cases h
          exact ⟨Nat.le_refl _, Nat.le_refl _⟩
        · cases h
      · cases h
    · split at h
      · split at h
        · rename_i M' av rest hcl
          obtain ⟨hlt, hok⟩ := pcl_lt hM hcl
          cases hcc : call M' av w with
          | none => rw [hcc] at h; unfold pac at h; cases h
          | some r =>
            have hg := hcall _ _ _ _ hlt hcc
            rw [hcc] at h
            obtain ⟨o9, w1⟩ := r
            cases o9 with
            | inl v =>
              unfold pac at h
              cases h
            | inr E =>
              unfold pac at h
              dsimp only at h
              rw [phd_nil] at h
              cases h
              exact hg
        · split at h
          · cases h
          · cases h
      · cases h
    · split at h
      · split at h
        · split at h
          · cases h
          · cases h
        · split at h
          · cases h
            exact ⟨Nat.le_refl _, Nat.le_refl _⟩
          · cases h
      · cases h
theorem pex_pos {call : Nat → List Value → PW → Option PR} {M : Nat} (hcall : ∀ M' av w r, M' < pNM → call M' av w = some r → pMon w r) (hM : M < pNM) {o : PO} {wf : PW} : ∀ (k pc : Nat) (L : PL) (S : List Value) (w : PW), pex call k M (pc, L, S, w) = some (o, wf) → w.1 ≤ wf.1 ∧ w.2.1 ≤ wf.2.1 := by
  intro k
  induction k with
  | zero => intro pc L S w h; cases h
  | succ k ih =>
    intro pc L S w h
    unfold pex at h
    cases hx : px call M (pc, L, S, w) with
    | none => rw [hx] at h; cases h
    | some z =>
      rw [hx] at h
      cases z with
      | inl c' =>
        obtain ⟨pc', L', S', w'⟩ := c'
        have h1 := px_pos hcall hM hx
        have h2 := ih pc' L' S' w' h
        exact ⟨Nat.le_trans h1.1 h2.1, Nat.le_trans h1.2 h2.2⟩
      | inr r =>
        cases h
        exact px_pos_r hcall hM hx
