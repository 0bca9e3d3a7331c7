/-! EQUATIONS OF THE PURE MACHINE: pX: from this place of a method it comes to an end with Q; pC: a call comes to an end with K -/
def pX (M pc : Nat) (L : PL) (S : List Value) (w : PW) (Q : PO → PW → Prop) : Prop := ∃ n r, pex (prun n) n M (pc, L, S, w) = some r ∧ Q r.1 r.2
def pC (M : Nat) (a : List Value) (w : PW) (K : PO → PW → Prop) : Prop := ∃ n r, prun n M a w = some r ∧ K r.1 r.2
theorem px_mono {c1 c2 : Nat → List Value → PW → Option PR} (h : ∀ M a w r, c1 M a w = some r → c2 M a w = some r) {M : Nat} {c : PF} {z : PF ⊕ PR} (hz : px c1 M c = some z) : px c2 M c = some z := by
  unfold px at hz ⊢
  split at hz
  · exact hz
  · split at hz <;> try exact hz
    rename_i len _ _ _
    by_cases hlen : len = 3
    · rw [if_pos hlen] at hz ⊢
      split at hz
      · rename_i M' args rest hcl
        cases hc : c1 M' args c.2.2.2 with
        | none => rw [hc] at hz; exact absurd hz (by simp [pac])
        | some r => rw [hc] at hz; rw [h _ _ _ _ hc]; exact hz
      · exact hz
    · rw [if_neg hlen] at hz
      exact absurd hz (by simp)
theorem pex_mono {c1 c2 : Nat → List Value → PW → Option PR} (h : ∀ M a w r, c1 M a w = some r → c2 M a w = some r) {M : Nat} {r : PR} : ∀ {n n' : Nat}, n ≤ n' → ∀ {c : PF}, pex c1 n M c = some r → pex c2 n' M c = some r := by
  intro n
  induction n with
  | zero => intro n' _ c hz; exact absurd hz (by simp [pex])
  | succ n ih =>
    intro n' hn c hz
    obtain ⟨k, rfl⟩ : ∃ k, n' = k + 1 := ⟨n' - 1, by omega⟩
    unfold pex at hz ⊢
    cases hx : px c1 M c with
    | none => rw [hx] at hz; exact absurd hz (by simp)
    | some z =>
      rw [hx] at hz
      rw [px_mono h hx]
      cases z with
      | inl c' => exact ih (by omega) hz
      | inr r' => exact hz
theorem prun_succ : ∀ (n : Nat) (M : Nat) (a : List Value) (w : PW) (r : PR), prun n M a w = some r → prun (n + 1) M a w = some r := by
  intro n
  induction n with
  | zero => intro M a w r h; exact absurd h (by simp [prun])
  | succ n ih =>
    intro M a w r h
    unfold prun at h ⊢
    split at h
    · rename_i hl
      rw [if_pos hl]
      exact pex_mono ih (Nat.le_succ _) h
    · exact absurd h (by simp)
theorem prun_mono {n n' : Nat} (h : n ≤ n') {M : Nat} {a : List Value} {w : PW} {r : PR} (hr : prun n M a w = some r) : prun n' M a w = some r := by
  induction h with
  | refl => exact hr
  | step _ ih => exact prun_succ _ _ _ _ _ ih
theorem pex_up {n n' : Nat} (h : n ≤ n') {M : Nat} {c : PF} {r : PR} {k k' : Nat} (hk : k ≤ k') (hr : pex (prun n) k M c = some r) : pex (prun n') k' M c = some r :=
  pex_mono (fun _ _ _ _ hz => prun_mono h hz) hk hr
theorem pX_step {M pc pc' : Nat} {L L' : PL} {S S' : List Value} {w w' : PW} (h : ∀ call, px call M (pc, L, S, w) = some (.inl (pc', L', S', w'))) (Q : PO → PW → Prop) : pX M pc L S w Q = pX M pc' L' S' w' Q := by
  refine propext ⟨fun ⟨n, r, hr, hq⟩ => ?_, fun ⟨n, r, hr, hq⟩ => ?_⟩
  · cases n with
    | zero => exact absurd hr (by simp [pex])
    | succ n =>
      unfold pex at hr
      rw [h] at hr
      exact ⟨n + 1, r, pex_up (Nat.le_refl _) (Nat.le_succ _) hr, hq⟩
  · refine ⟨n + 1, r, ?_, hq⟩
    unfold pex
    rw [h]
    exact pex_up (Nat.le_succ _) (Nat.le_refl _) hr
theorem pX_end {M pc : Nat} {L : PL} {S : List Value} {w : PW} {r : PR} (h : ∀ call, px call M (pc, L, S, w) = some (.inr r)) (Q : PO → PW → Prop) : pX M pc L S w Q = Q r.1 r.2 := by
  refine propext ⟨fun ⟨n, r', hr, hq⟩ => ?_, fun hq => ?_⟩
  · cases n with
    | zero => exact absurd hr (by simp [pex])
    | succ n =>
      unfold pex at hr
      rw [h] at hr
      cases hr
      exact hq
  · refine ⟨1, r, ?_, hq⟩
    unfold pex
    rw [h]
theorem pX_stuck {M pc : Nat} {L : PL} {S : List Value} {w : PW} (h : ∀ call, px call M (pc, L, S, w) = none) (Q : PO → PW → Prop) : pX M pc L S w Q = False := by
  refine propext ⟨fun ⟨n, r', hr, hq⟩ => ?_, False.elim⟩
  cases n with
  | zero => exact absurd hr (by simp [pex])
  | succ n =>
    unfold pex at hr
    rw [h] at hr
    exact absurd hr (by simp)
/-- what goes on behind a call -/
def pK (M pc np : Nat) (L : PL) (rest : List Value) (Q : PO → PW → Prop) : PO → PW → Prop := fun o w => match o with
  | .inl v => pX M np L (v.toList ++ rest) w Q
  | .inr E => match phd M pc E with
    | some (h, loc, ln) => (pc + 3 ≤ h ∧ loc < L.length) ∧ pX M (h + ln) ((pst1 L loc (.int 0)).set loc none) [] w Q
    | none => Q (.inr E) w
theorem pX_call {M pc : Nat} {cc : ByteArray} {i : Instr} {L : PL} {S args rest : List Value} {w : PW} {M' np : Nat} (hB : mB M = cc) (hd : decode cc pc = .ok (i, 3)) (hk : pkd i = 5) (hc : pcl M pc i S w = some (M', args, rest)) (hn : np = pc + 3) (Q : PO → PW → Prop) :
    pX M pc L S w Q = pC M' args w (pK M pc np L rest Q) := by
  subst hn
  have hx : ∀ call, px call M (pc, L, S, w) = pac M pc L rest (call M' args w) := by
    intro call
    unfold px
    simp only [hB, hd, hk, hc]
    simp
  refine propext ⟨fun ⟨n, r, hr, hq⟩ => ?_, fun ⟨n, r, hr, hq⟩ => ?_⟩
  · cases n with
    | zero => exact absurd hr (by simp [pex])
    | succ n =>
      unfold pex at hr
      rw [hx] at hr
      cases hp : prun (n + 1) M' args w with
      | none => rw [hp] at hr; exact absurd hr (by simp [pac])
      | some r1 =>
        rw [hp] at hr
        refine ⟨n + 1, r1, hp, ?_⟩
        obtain ⟨o, w1⟩ := r1
        cases o with
        | inl v =>
          simp only [pac] at hr
          exact ⟨n + 1, r, pex_up (Nat.le_refl _) (Nat.le_succ _) hr, hq⟩
        | inr E =>
          simp only [pac] at hr
          show pK _ _ _ _ _ _ _ _
          unfold pK
          simp only
          cases hh : phd M pc E with
          | none =>
            rw [hh] at hr
            simp only at hr
            cases hr
            exact hq
          | some z =>
            obtain ⟨h, loc, ln⟩ := z
            rw [hh] at hr
            simp only at hr ⊢
            by_cases hc2 : pc + 3 ≤ h ∧ loc < L.length
            · rw [if_pos hc2] at hr
              exact ⟨hc2, n + 1, r, pex_up (Nat.le_refl _) (Nat.le_succ _) hr, hq⟩
            · rw [if_neg hc2] at hr
              exact absurd hr (by simp)
  · obtain ⟨o, w1⟩ := r
    cases o with
    | inl v =>
      obtain ⟨n2, r2, hr2, hq2⟩ := hq
      refine ⟨n + n2 + 1, r2, ?_, hq2⟩
      unfold pex
      rw [hx, prun_mono (show n ≤ n + n2 + 1 by omega) hr]
      simp only [pac]
      exact pex_up (by omega) (by omega) hr2
    | inr E =>
      unfold pK at hq
      simp only at hq
      cases hh : phd M pc E with
      | none =>
        rw [hh] at hq
        refine ⟨n + 1, (.inr E, w1), ?_, hq⟩
        unfold pex
        rw [hx, prun_mono (show n ≤ n + 1 by omega) hr]
        simp only [pac, hh]
      | some z =>
        obtain ⟨h, loc, ln⟩ := z
        rw [hh] at hq
        simp only at hq
        obtain ⟨hc2, n2, r2, hr2, hq2⟩ := hq
        refine ⟨n + n2 + 1, r2, ?_, hq2⟩
        unfold pex
        rw [hx, prun_mono (show n ≤ n + n2 + 1 by omega) hr]
        simp only [pac, hh]
        rw [if_pos hc2]
        exact pex_up (by omega) (by omega) hr2
theorem pC_in {M : Nat} {a : List Value} {w : PW} {L : PL} (hl : (pargs a).length ≤ mN M) (hL : pent M a = L) (K : PO → PW → Prop) : pC M a w K = pX M 0 L [] w K := by
  subst hL
  refine propext ⟨fun ⟨n, r, hr, hq⟩ => ?_, fun ⟨n, r, hr, hq⟩ => ?_⟩
  · cases n with
    | zero => exact absurd hr (by simp [prun])
    | succ n =>
      unfold prun at hr
      rw [if_pos hl] at hr
      exact ⟨n + 1, r, pex_up (Nat.le_succ _) (Nat.le_refl _) hr, hq⟩
  · refine ⟨n + 1, r, ?_, hq⟩
    unfold prun
    rw [if_pos hl]
    exact pex_up (Nat.le_refl _) (Nat.le_succ _) hr
/-! one equation a kind of instruction -/
section PXE
variable {M pc np : Nat} {cc : ByteArray} {i : Instr} {L L' : PL} {S S' : List Value} {w w' : PW} {ln : Nat}
theorem pX_f (hB : mB M = cc) (hd : decode cc pc = .ok (i, ln)) (hk : pkd i = 0) (hf : pf i L S = some (ln, L', S')) (hn : np = pc + ln) (Q : PO → PW → Prop) : pX M pc L S w Q = pX M np L' S' w Q := by
  subst hn
  refine pX_step (fun call => ?_) Q
  unfold px
  simp only [hB, hd, hk, hf, if_true]
theorem pX_b {tk : Bool} {off : Int} {tgt : Nat} (hB : mB M = cc) (hd : decode cc pc = .ok (i, ln)) (hk : pkd i = 1) (hf : pb i S = some (tk, off, ln, S')) (hn : np = pc + ln) (ht : (pc : Int) + off = (tgt : Int)) (hp : phi M tgt ≤ phi M pc) (Q : PO → PW → Prop) : pX M pc L S w Q = if tk = true then pX M tgt L S' w Q else pX M np L S' w Q := by
  subst hn
  have h0 : (ln = ln ∨ ln = 0) ∧ 0 ≤ (pc : Int) + off := ⟨Or.inl rfl, by rw [ht]; exact Int.natCast_nonneg _⟩
  cases tk with
  | true =>
    rw [if_pos rfl]
    refine pX_step (fun call => ?_) Q
    unfold px pjp
    simp [hB, hd, hk, hf, ht, hp]
  | false =>
    rw [if_neg (by decide)]
    refine pX_step (fun call => ?_) Q
    unfold px
    simp [hB, hd, hk, hf, ht]
theorem pX_j {off : Int} {tgt l0 : Nat} (hB : mB M = cc) (hd : decode cc pc = .ok (i, ln)) (hk : pkd i = 1) (hf : pb i S = some (true, off, l0, S')) (hl : l0 = ln ∨ l0 = 0) (ht : (pc : Int) + off = (tgt : Int)) (hp : phi M tgt ≤ phi M pc) (Q : PO → PW → Prop) : pX M pc L S w Q = pX M tgt L S' w Q := by
  have h0 : (l0 = ln ∨ l0 = 0) ∧ 0 ≤ (pc : Int) + off := ⟨hl, by rw [ht]; exact Int.natCast_nonneg _⟩
  refine pX_step (fun call => ?_) Q
  unfold px pjp
  simp [hB, hd, hk, hf, hl, ht, hp]
theorem pX_l (hB : mB M = cc) (hd : decode cc pc = .ok (i, ln)) (hk : pkd i = 2) (hf : pld M i S w = some (ln, S', w')) (hn : np = pc + ln) (Q : PO → PW → Prop) : pX M pc L S w Q = pX M np L S' w' Q := by
  subst hn
  refine pX_step (fun call => ?_) Q
  unfold px
  simp only [hB, hd, hk, hf, if_true]
theorem pX_s (hB : mB M = cc) (hd : decode cc pc = .ok (i, ln)) (hk : pkd i = 3) (hf : psw M i S w = some (ln, S', w')) (hn : np = pc + ln) (Q : PO → PW → Prop) : pX M pc L S w Q = pX M np L S' w' Q := by
  subst hn
  refine pX_step (fun call => ?_) Q
  unfold px
  simp only [hB, hd, hk, hf, if_true]
theorem pX_r {v : Option Value} (hB : mB M = cc) (hd : decode cc pc = .ok (i, 1)) (hk : pkd i = 4) (hf : prt M i S = some v) (Q : PO → PW → Prop) : pX M pc L S w Q = Q (.inl v) w := by
  refine pX_end (r := (.inl v, w)) (fun call => ?_) Q
  unfold px
  simp only [hB, hd, hk, hf, if_true]
theorem pX_n (hB : mB M = cc) (hd : decode cc pc = .ok (i, 3)) (hk : pkd i = 5) (h0 : pcl M pc i S w = none) (hf : pna M i S w = some (S', w')) (hn : np = pc + 3) (Q : PO → PW → Prop) : pX M pc L S w Q = pX M np L S' w' Q := by
  subst hn
  refine pX_step (fun call => ?_) Q
  unfold px
  simp only [hB, hd, hk, h0, hf, if_true]
theorem pX_w {idx : Nat} (hB : mB M = cc) (hd : decode cc pc = .ok (.new idx, 3)) (hf : psw M (.new idx) S w = some (3, S', w')) (hn : np = pc + 3) (Q : PO → PW → Prop) : pX M pc L S w Q = pX M np L S' w' Q := by
  subst hn
  refine pX_step (fun call => ?_) Q
  unfold px
  simp only [hB, hd, pkd, hf, if_true]
theorem pX_t {idx E : Nat} (hB : mB M = cc) (hd : decode cc pc = .ok (.new idx, 3)) (h0 : psw M (.new idx) S w = none) (hf : pth M pc (.new idx) S w = some E) (Q : PO → PW → Prop) : pX M pc L S w Q = Q (.inr E) w := by
  refine pX_end (r := (.inr E, w)) (fun call => ?_) Q
  unfold px
  simp only [hB, hd, pkd, h0, hf, if_true]
end PXE
