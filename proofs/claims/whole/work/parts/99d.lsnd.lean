/-! THE LAW: its own run over the kit -/
theorem lex_pos {call : Nat → List Value → PW → Option PR} (hcall : ∀ M' av w r, M' < 355 → call M' av w = some r → pMon M' w r) {o : PO} {wf : PW} : ∀ (k j pc : Nat) (L : PL) (S : List Value) (w : PW), lex call k j 355 (pc, L, S, w) = some (o, wf) → w.1 ≤ wf.1 ∧ w.2.1 ≤ wf.2.1 := by
  intro k
  induction k with
  | zero => intro j pc L S w h; cases h
  | succ k ih =>
    intro j pc L S w h
    unfold lex at h
    by_cases hb : 355 = 355 ∧ pc = 3569
    · rw [if_pos hb] at h
      cases j with
      | zero => cases h
      | succ j => exact ih j 28 L S w h
    · rw [if_neg hb] at h
      cases hx : px call 355 (pc, L, S, w) with
      | none => rw [hx] at h; cases h
      | some z =>
        rw [hx] at h
        cases z with
        | inl c' =>
          obtain ⟨pc', L', S', w'⟩ := c'
          have h1 := px_pos hcall (by decide) hx
          have h2 := ih j pc' L' S' w' h
          exact ⟨Nat.le_trans h1.1 h2.1, Nat.le_trans h1.2.1 h2.2⟩
        | inr r =>
          cases h
          have h3 := px_pos_r hcall (by decide) hx
          exact ⟨h3.1, h3.2.1⟩
section LSN
variable {p : Program} {l : Launch} {e : Env} {R : Room} {s : State} {m : MethodId} {args : Array Value} {below : List Frame} {meth : Method} {c : Code}
variable {D : va_G} {cy : Nat → ClassId} {sa sv : Nat → Nat} {b Ls : Nat} {xs : Nat → Int32} {s0 : State} {a0 : Array Value}
set_option maxHeartbeats 8000000 in
theorem lex_snd {call : Nat → List Value → PW → Option PR} (hcall : ∀ M' av w r, M' < 355 → call M' av w = some r → pMet l D cy sa b Ls xs s0 M' av w r ∧ pMon M' w r)
    (hC : pCx p l D cy sa sv b Ls xs s0 a0 355 R s m c) (hTab : c.exceptionTable.toList = tableOf ((mH 355).map (fun h => (h.1, h.2.1, h.2.2.1, h.2.2.2.1)))) (hN : meth.name = (mY 355).name) (hret : meth.sig.returnType = mR 355) (hlk : meth.locks = false) {o : PO} {wf : PW} {mc ms : Nat} (hmc : mc ≤ R.cells) (hms : ms ≤ R.slots) :
    ∀ (k j pc : Nat) (L : PL) (S : List Value) (w : PW) (H : Heap) (locs : List Loc) (ls : Array Slot) (cells slots : Nat), lex call k j 355 (pc, L, S, w) = some (o, wf) → pRi D (pad s0.heap.size sa b) cy Ls xs w H → va_S (pA s0.heap.size) s.heap H locs → pLs (pad s0.heap.size sa b) (mN 355) ls L → (w.1 < pNA → s.heap.size + cells ≤ s0.heap.size + w.1) →
      cells + (wf.1 - w.1) + (if wf.1 < pNA then 0 else phi 355 pc + j * phi 355 28) ≤ mc → slots + (wf.2.1 - w.2.1) + (if wf.1 < pNA then 0 else 6 * (phi 355 pc + j * phi 355 28)) ≤ ms →
      W p l e R s m args below meth c H locs cells slots (vx_MQ below (pQc D cy sa b Ls xs s0 o wf) (pXc D cy sa b Ls xs s0 o wf) args s mc ms (pA s0.heap.size)) (F0 m pc ls (S.map (mV (pad s0.heap.size sa b)))) := by
  have hmon : ∀ M' av w r, M' < 355 → call M' av w = some r → pMon M' w r := fun M' av w r h1 h2 => (hcall M' av w r h1 h2).2
  intro k
  induction k with
  | zero => intro j pc L S w H locs ls cells slots h; cases h
  | succ k ih =>
    intro j pc L S w H locs ls cells slots h hR hS hl hz hc hs
    unfold lex at h
    by_cases hb : 355 = 355 ∧ pc = 3569
    · rw [if_pos hb] at h
      obtain ⟨-, rfl⟩ := hb
      cases j with
      | zero => cases h
      | succ j =>
        refine pb_snd (tk := true) (tgt := 28) hC.1 hC.2.1 (show decode (mB 355) 3569 = .ok (.goto (-3541), 3) from dL_3569) (show pb (.goto (-3541)) S = some (true, -3541, 3, S) from rfl) (Or.inl rfl) (by decide) ?_
        rw [if_pos rfl]
        refine ih j 28 L S w H locs ls cells slots h hR hS hl hz ?_ ?_
        · by_cases q : wf.1 < pNA
          · rw [if_pos q] at hc ⊢
            exact hc
          · rw [if_neg q] at hc ⊢
            rw [show (j + 1) * phi 355 28 = j * phi 355 28 + phi 355 28 from Nat.succ_mul _ _] at hc
            omega
        · by_cases q : wf.1 < pNA
          · rw [if_pos q] at hs ⊢
            exact hs
          · rw [if_neg q] at hs ⊢
            rw [show (j + 1) * phi 355 28 = j * phi 355 28 + phi 355 28 from Nat.succ_mul _ _] at hs
            omega
    · rw [if_neg hb] at h
      cases hx : px call 355 (pc, L, S, w) with
      | none => rw [hx] at h; cases h
      | some z =>
        rw [hx] at h
        cases z with
        | inl c' =>
          obtain ⟨pc', L', S', w'⟩ := c'
          have h1 := px_pos hmon hC.2.2.2.2.1 hx
          have h2 := lex_pos hmon k j pc' L' S' w' h
          have b1 : cells + xD 355 pc pc' w w' + (wf.1 - w'.1) + (if wf.1 < pNA then 0 else phi 355 pc' + j * phi 355 28) ≤ mc := by
            unfold xD
            by_cases q : wf.1 < pNA
            · rw [if_pos q] at hc ⊢
              rw [if_pos (Nat.lt_of_le_of_lt h2.1 q)]
              omega
            · rw [if_neg q] at hc ⊢
              by_cases q2 : w'.1 < pNA
              · rw [if_pos q2]; omega
              · rw [if_neg q2]; omega
          have b2 : slots + xE 355 pc pc' w w' + (wf.2.1 - w'.2.1) + (if wf.1 < pNA then 0 else 6 * (phi 355 pc' + j * phi 355 28)) ≤ ms := by
            unfold xE
            by_cases q : wf.1 < pNA
            · rw [if_pos q] at hs ⊢
              rw [if_pos (Nat.lt_of_le_of_lt h2.1 q)]
              omega
            · rw [if_neg q] at hs ⊢
              by_cases q2 : w'.1 < pNA
              · rw [if_pos q2]; omega
              · rw [if_neg q2]; omega
          refine px_go hcall hC hTab hN hR hS hl hz hx (by omega) (by omega) (fun H1 locs1 ls1 cells1 slots1 e1 e2 hR1 hS1 hl1 => ih j pc' L' S' w' H1 locs1 ls1 cells1 slots1 h hR1 hS1 hl1 (fun q => ?_) (by omega) (by omega))
          have e3 : xD 355 pc pc' w w' = w'.1 - w.1 := by
            unfold xD
            rw [if_pos q]
            rfl
          have := hz (Nat.lt_of_le_of_lt h1.1 q)
          omega
        | inr r =>
          obtain ⟨o9, w9⟩ := r
          cases h
          refine px_fin hcall hC hTab hret hlk hR hS hl hz hx ?_ ?_ hmc hms
          · by_cases q : wf.1 < pNA
            · rw [if_pos q] at hc ⊢
              exact hc
            · rw [if_neg q] at hc ⊢
              omega
          · by_cases q : wf.1 < pNA
            · rw [if_pos q] at hs ⊢
              exact hs
            · rw [if_neg q] at hs ⊢
              omega
end LSN
