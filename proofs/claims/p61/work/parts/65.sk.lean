/-! THE SEARCH, by itself: what its states have, what its end says -/
theorem sBad_congr {m : Row} {u : Int} {ch ch' : Nat → Int} {d t k : Nat} (h : ch' k = ch k) : sBad m u ch' d t k = sBad m u ch d t k := by
  unfold sBad
  rw [h]
theorem sFit_congr {m : Row} {u : Int} {ch ch' : Nat → Int} {d t : Nat} (h : ∀ k, k < d → ch' k = ch k) : sFit m u ch' d t = sFit m u ch d t := by
  unfold sFit
  rw [cnt_congr (fun k hk => sBad_congr (h k hk))]
/-- a note that was laid -/
def laidD (m : Row) (u but : Int) (ch : Nat → Int) (d : Nat) : Prop := ∃ t : Nat, ch d = (t : Int) ∧ t < (m 4).toNat ∧ rT m t 0 = rN m (ordN m u d) 2 ∧ (t : Int) ≠ but ∧ sFit m u ch d t = true
theorem laidD.congr {m : Row} {u but : Int} {ch ch' : Nat → Int} {d : Nat} (h : laidD m u but ch d) (he : ∀ k, k ≤ d → ch' k = ch k) : laidD m u but ch' d := by
  obtain ⟨t, h1, h2, h3, h4, h5⟩ := h
  exact ⟨t, (he d (Nat.le_refl d)).trans h1, h2, h3, h4, by rw [sFit_congr (fun k hk => he k (by omega))]; exact h5⟩
def skI (m : Row) (u but : Int) (σ : SS) : Prop := σ.1 ≤ ordR m u ∧ σ.1 ≤ σ.2.1 ∧ σ.2.1 ≤ 4000 ∧ ∀ d, d < σ.1 → laidD m u but σ.2.2 d
theorem chSet_ne {ch : Nat → Int} {k j : Nat} {z : Int} (h : j ≠ k) : chSet ch k z j = ch j := if_neg h
theorem chSet_eq {ch : Nat → Int} {k : Nat} {z : Int} : chSet ch k z k = z := if_pos rfl
theorem sRun_inv (m : Row) (u but : Int) : ∀ (n : Nat) (σ : SS), skI m u but σ → skI m u but (sRun m u but n σ).2 ∧ ((sRun m u but n σ).1 = 1 → ordR m u ≤ (sRun m u but n σ).2.1) ∧ ((sRun m u but n σ).1 = 1 ∨ (sRun m u but n σ).1 = 0 ∨ (sRun m u but n σ).1 = -2 ∨ (sRun m u but n σ).1 = -9) := by
  intro n
  induction n with
  | zero =>
    intro σ h
    exact ⟨h, fun q => absurd (show (-9 : Int) = 1 from q) (by decide), Or.inr (Or.inr (Or.inr rfl))⟩
  | succ n ih =>
    intro σ h
    obtain ⟨h1, h2, h3, h4⟩ := h
    unfold sRun
    split
    · rename_i q
      exact ⟨⟨h1, h2, h3, h4⟩, fun _ => q, Or.inl rfl⟩
    · rename_i q
      split
      · rename_i qt
        split
        · exact ⟨⟨h1, h2, h3, h4⟩, fun z => absurd (show (-2 : Int) = 1 from z) (by decide), Or.inr (Or.inr (Or.inl rfl))⟩
        · rename_i q3
          split
          · rename_i qf
            refine ih _ ⟨by show σ.1 + 1 ≤ _; omega, by show σ.1 + 1 ≤ σ.2.1 + 1; omega, by show σ.2.1 + 1 ≤ 4000; omega, fun d hd => ?_⟩
            have hd : d < σ.1 + 1 := hd
            show laidD m u but (chSet (chSet σ.2.2 σ.1 (sTry m u but σ : Nat)) (σ.1 + 1) (-1)) d
            by_cases qd : d = σ.1
            · subst qd
              have hs := (fnd_spec (sNext m (rN m (ordN m u σ.1) 2) but (σ.2.2 σ.1)) (m 4).toNat).2.2 qt
              unfold sNext at hs
              simp only [Bool.and_eq_true, decide_eq_true_eq] at hs
              refine ⟨sTry m u but σ, ?_, qt, hs.2.1, hs.2.2, ?_⟩
              · rw [chSet_ne (by omega), chSet_eq]
              · rw [sFit_congr (ch := σ.2.2) (fun k hk => by rw [chSet_ne (by omega), chSet_ne (by omega)])]
                exact qf
            · exact (h4 d (by omega)).congr (fun k hk => by rw [chSet_ne (by omega), chSet_ne (by omega)])
          · refine ih _ ⟨h1, by show σ.1 ≤ σ.2.1 + 1; omega, by show σ.2.1 + 1 ≤ 4000; omega, fun d hd => ?_⟩
            have hd : d < σ.1 := hd
            exact (h4 d hd).congr (fun k hk => chSet_ne (by omega))
      · split
        · exact ⟨⟨h1, h2, h3, h4⟩, fun z => absurd (show (0 : Int) = 1 from z) (by decide), Or.inr (Or.inl rfl)⟩
        · refine ih _ ⟨by show σ.1 - 1 ≤ _; omega, by show σ.1 - 1 ≤ σ.2.1; omega, h3, fun d hd => h4 d (by have hd : d < σ.1 - 1 := hd; omega)⟩
theorem sk0 (m : Row) (u but : Int) : skI m u but (0, 0, fun _ => -1) := ⟨Nat.zero_le _, Nat.le_refl _, Nat.zero_le _, fun d hd => absurd hd (Nat.not_lt_zero d)⟩
theorem sSeek_out (m : Row) (u but : Int) : (sSeek m u but).1 = 1 ∨ (sSeek m u but).1 = 0 ∨ (sSeek m u but).1 = -2 := by
  have h := (sRun_inv m u but 12000 _ (sk0 m u but)).2.2
  have h9 := sSeek_fuel m u but
  unfold sSeek at h9 ⊢
  omega
theorem sSeek_tr (m : Row) (u but : Int) : (sSeek m u but).2.2.1 ≤ 4000 := (sRun_inv m u but 12000 _ (sk0 m u but)).1.2.2.1
/-- a layout that was found -/
theorem sSeek_lay {m : Row} {u but : Int} (h : (sSeek m u but).1 = 1) : (∀ d, d < ordR m u → laidD m u but (sSeek m u but).2.2.2 d) ∧ ordR m u ≤ (sSeek m u but).2.2.1 := by
  have hi := sRun_inv m u but 12000 _ (sk0 m u but)
  have h1 := hi.2.1 h
  exact ⟨fun d hd => hi.1.2.2.2 d (Nat.lt_of_lt_of_le hd h1), Nat.le_trans h1 hi.1.2.1⟩
/-- how many notes the order has -/
theorem sOrd_cnt (m : Row) (u : Int) : ∀ n, (sOrd m u n).2 = cnt (fun i => decide (rN m i 0 = u)) n := by
  intro n
  induction n with
  | zero => rfl
  | succ n ih =>
    unfold sOrd
    rw [cnt_s]
    by_cases q : rN m n 0 = u
    · rw [if_pos q, if_pos (decide_eq_true q), ← ih]
    · rw [if_neg q, if_neg (by rw [decide_eq_false q]; decide), ← ih]
      rfl
theorem ordR_notes (m : Row) (u : Int) : ordR m u = sNotes m u := sOrd_cnt m u _
