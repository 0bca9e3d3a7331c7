/-! SOUNDNESS, 11: one step and whole runs over the kit -/
section PGO
variable {p : Program} {l : Launch} {e : Env} {R : Room} {s : State} {m : MethodId} {args : Array Value} {below : List Frame} {meth : Method} {c : Code} {H : Heap} {locs : List Loc} {cells slots : Nat} {Q : State → Prop}
variable {pc pc' ln : Nat} {i : Instr} {ls : Array Slot} {L L' : PL} {S S' : List Value} {w w' : PW}
variable {D : va_G} {cy : Nat → ClassId} {sa sv : Nat → Nat} {b Ls z : Nat} {xs : Nat → Int32} {tx : List Nat} {s0 : State} {a0 : Array Value} {M : Nat}
set_option maxHeartbeats 8000000 in
theorem px_go {call : Nat → List Value → PW → Option PR} (hcall : ∀ M' av w v w1, M' < pNM → call M' av w = some (.inl v, w1) → pMet l D cy sa b Ls z xs tx s0 M' av w v w1)
    (hC : pCx p l D cy sa sv b Ls z xs tx s0 a0 M R s m c) (hN : meth.name = (mY M).name)
    (hR : pRi D (pad z sa b) cy Ls xs tx w H) (hS : va_S (pA z s0.heap.size) s.heap H locs) (hl : pLs (pad z sa b) (mN M) ls L) (hz : w.1 < pNA → s.heap.size + cells ≤ z + w.1)
    (h : px call M (pc, L, S, w) = some (.inl (pc', L', S', w'))) (hc1 : cells + (w'.1 - w.1) ≤ R.cells) (hs1 : slots + (w'.2.1 - w.2.1) ≤ R.slots)
    (k : ∀ (H1 : Heap) (locs1 : List Loc) (ls1 : Array Slot) (cells1 slots1 : Nat), cells1 ≤ cells + (w'.1 - w.1) → slots1 ≤ slots + (w'.2.1 - w.2.1) → pRi D (pad z sa b) cy Ls xs tx w' H1 → va_S (pA z s0.heap.size) s.heap H1 locs1 → pLs (pad z sa b) (mN M) ls1 L' → W p l e R s m args below meth c H1 locs1 cells1 slots1 Q (F0 m pc' ls1 (S'.map (mV (pad z sa b))))) :
    W p l e R s m args below meth c H locs cells slots Q (F0 m pc ls (S.map (mV (pad z sa b)))) := by
  have hx := hC.1
  have hb := hC.2.1
  have hMl := hC.2.2.2.2.1
  have hover : va_AO "PinBarrel$Box" s := va_AO.moved hC.2.2.2.2.2.2.1.alike (va_AO.of (hC.2.2.2.2.2.1.1.1 _ okA_over))
  have hcR : cells ≤ R.cells := by omega
  have hsR : slots ≤ R.slots := by omega
  unfold px at h
  dsimp only at h
  split at h
  · cases h
  · rename_i i len hd
    split at h
    · split at h
      · rename_i hf
        split at h
        · rename_i hln
          cases h
          subst hln
          exact pf_snd hx hb hd hf hl (fun ls1 hl1 => k H locs ls1 cells slots (Nat.le_add_right _ _) (Nat.le_add_right _ _) hR hS hl1)
        · cases h
      · cases h
    · split at h
      · rename_i hf
        split at h
        · rename_i hc9
          have ht := (Int.toNat_of_nonneg hc9.2).symm
          split at h
          · rename_i htk
            unfold pjp at h
            split at h
            · cases h
              refine pb_snd hx hb hd hf hc9.1 ht ?_
              rw [if_pos htk]
              exact k H locs ls cells slots (Nat.le_add_right _ _) (Nat.le_add_right _ _) hR hS hl
            · cases h
          · rename_i htk
            cases h
            refine pb_snd hx hb hd hf hc9.1 ht ?_
            rw [if_neg htk]
            exact k H locs ls cells slots (Nat.le_add_right _ _) (Nat.le_add_right _ _) hR hS hl
        · cases h
      · cases h
    · split at h
      · rename_i hf
        split at h
        · rename_i hln
          cases h
          subst hln
          exact pld_snd hC hR hS hd hf (fun hw => k H locs ls cells slots (Nat.le_add_right _ _) (Nat.le_add_right _ _) (by rw [hw]; exact hR) hS hl)
        · cases h
      · cases h
    · split at h
      · rename_i hf
        split at h
        · rename_i hln
          cases h
          subst hln
          exact psw_snd hC hover hN hR hS hz hc1 hs1 hd hf (fun H1 locs1 cells1 slots1 e1 e2 hR1 hS1 => k H1 locs1 ls cells1 slots1 (by rw [e1]; exact Nat.le_refl _) (by rw [e2]; exact Nat.le_refl _) hR1 hS1 hl)
        · cases h
      · cases h
    · split at h
      · split at h
        · cases h
        · cases h
      · cases h
    · split at h
      · rename_i hl3
        subst hl3
        split at h
        · rename_i M' av rest hcl
          obtain ⟨hlt, hok⟩ := pcl_lt hMl hcl
          cases hcc : call M' av w with
          | none => rw [hcc] at h; unfold pac at h; cases h
          | some r =>
            rw [hcc] at h
            obtain ⟨o, w1⟩ := r
            refine W_size fun hsize => ?_
            have hsz : w.1 < pNA → H.size ≤ z + w.1 := fun hw => Nat.le_trans hsize (hz hw)
            cases o with
            | inl v =>
              have hg := hcall _ _ _ _ _ hlt hcc
              unfold pac at h
              cases h
              refine prun_use (pcall_run hC hR hS hl.1 hd hcl (fun _ => hg) hsz hc1 hs1) hS (fun H1 locs1 hR1 hS1 => ?_)
              have g := k H1 locs1 ls (cells + (w'.1 - w.1)) (slots + (w'.2.1 - w.2.1)) (Nat.le_refl _) (Nat.le_refl _) hR1 hS1 hl
              rw [List.map_append, ← opt_map] at g
              exact g
            | inr E =>
              unfold pac at h
              dsimp only at h
              rw [phd_nil] at h
              cases h
        · split at h
          · rename_i hf
            cases h
            exact pna_snd hC hR hS hl.1 hcR hsR hd hf (fun H1 locs1 _ _ hR1 hS1 => k H1 locs1 ls cells slots (Nat.le_add_right _ _) (Nat.le_add_right _ _) hR1 hS1 hl)
          · cases h
      · cases h
    · split at h
      · rename_i hl3
        subst hl3
        split at h
        · rename_i hf
          split at h
          · rename_i hln
            cases h
            subst hln
            exact psw_snd hC hover hN hR hS hz hc1 hs1 hd hf (fun H1 locs1 cells1 slots1 e1 e2 hR1 hS1 => k H1 locs1 ls cells1 slots1 (by rw [e1]; exact Nat.le_refl _) (by rw [e2]; exact Nat.le_refl _) hR1 hS1 hl)
          · cases h
        · split at h
          · cases h
          · cases h
      · cases h
set_option maxHeartbeats 8000000 in
theorem px_fin {call : Nat → List Value → PW → Option PR}
    (hC : pCx p l D cy sa sv b Ls z xs tx s0 a0 M R s m c) (hret : meth.sig.returnType = mR M) (hlk : meth.locks = false)
    (hR : pRi D (pad z sa b) cy Ls xs tx w H) (hS : va_S (pA z s0.heap.size) s.heap H locs) {v : Option Value}
    (h : px call M (pc, L, S, w) = some (.inr (.inl v, w'))) {mc ms : Nat} (hc1 : cells ≤ mc) (hs1 : slots ≤ ms) :
    W p l e R s m args below meth c H locs cells slots (MQ below (pQc D cy sa b Ls z xs tx s0 v w') args s mc ms (pA z s0.heap.size)) (F0 m pc ls (S.map (mV (pad z sa b)))) := by
  have hx := hC.1
  have hb := hC.2.1
  have hMl := hC.2.2.2.2.1
  unfold px at h
  dsimp only at h
  split at h
  · cases h
  · rename_i i len hd
    split at h
    · repeat' split at h
      all_goals cases h
    · split at h
      · split at h
        · split at h
          · unfold pjp at h
            split at h
            · cases h
            · cases h
          · cases h
        · cases h
      · cases h
    · repeat' split at h
      all_goals cases h
    · repeat' split at h
      all_goals cases h
    · split at h
      · rename_i v9 hf
        split at h
        · rename_i hl1
          subst hl1
          cases h
          exact prt_snd hx hb hret hlk hd hf (fun t ht _ => ⟨rfl, hS.F ht, by rw [ht]; exact hR⟩) hS.2.2 hc1 hs1
        · cases h
      · cases h
    · split at h
      · split at h
        · rename_i M' av rest hcl
          cases hcc : call M' av w with
          | none => rw [hcc] at h; unfold pac at h; cases h
          | some r =>
            rw [hcc] at h
            obtain ⟨o9, w1⟩ := r
            cases o9 with
            | inl v => unfold pac at h; cases h
            | inr E =>
              unfold pac at h
              dsimp only at h
              rw [phd_nil] at h
              cases h
        · split at h
          · cases h
          · cases h
      · cases h
    · split at h
      · split at h
        · split at h
          · cases h
          · cases h
        · split at h
          · cases h
          · cases h
      · cases h
set_option maxHeartbeats 8000000 in
theorem pex_snd {call : Nat → List Value → PW → Option PR} (hcall : ∀ M' av w v w1, M' < pNM → call M' av w = some (.inl v, w1) → pMet l D cy sa b Ls z xs tx s0 M' av w v w1) (hmon : ∀ M' av w r, M' < pNM → call M' av w = some r → pMon w r)
    (hC : pCx p l D cy sa sv b Ls z xs tx s0 a0 M R s m c) (hN : meth.name = (mY M).name) (hret : meth.sig.returnType = mR M) (hlk : meth.locks = false) {v : Option Value} {wf : PW} {mc ms : Nat} (hmc : mc ≤ R.cells) (hms : ms ≤ R.slots) :
    ∀ (k pc : Nat) (L : PL) (S : List Value) (w : PW) (H : Heap) (locs : List Loc) (ls : Array Slot) (cells slots : Nat), pex call k M (pc, L, S, w) = some (.inl v, wf) → pRi D (pad z sa b) cy Ls xs tx w H → va_S (pA z s0.heap.size) s.heap H locs → pLs (pad z sa b) (mN M) ls L → (w.1 < pNA → s.heap.size + cells ≤ z + w.1) →
      cells + (wf.1 - w.1) ≤ mc → slots + (wf.2.1 - w.2.1) ≤ ms →
      W p l e R s m args below meth c H locs cells slots (MQ below (pQc D cy sa b Ls z xs tx s0 v wf) args s mc ms (pA z s0.heap.size)) (F0 m pc ls (S.map (mV (pad z sa b)))) := by
  intro k
  induction k with
  | zero => intro pc L S w H locs ls cells slots h; cases h
  | succ k ih =>
    intro pc L S w H locs ls cells slots h hR hS hl hz hc hs
    unfold pex at h
    cases hx : px call M (pc, L, S, w) with
    | none => rw [hx] at h; cases h
    | some y =>
      rw [hx] at h
      cases y with
      | inl c' =>
        obtain ⟨pc', L', S', w'⟩ := c'
        have h1 := px_pos hmon hC.2.2.2.2.1 hx
        have h2 := pex_pos hmon hC.2.2.2.2.1 k pc' L' S' w' h
        have g1 := h1.1
        have g2 := h1.2
        have g3 := h2.1
        have g4 := h2.2
        refine px_go hcall hC hN hR hS hl hz hx (by omega) (by omega) (fun H1 locs1 ls1 cells1 slots1 e1 e2 hR1 hS1 hl1 => ih pc' L' S' w' H1 locs1 ls1 cells1 slots1 h hR1 hS1 hl1 (fun q => ?_) (by omega) (by omega))
        have := hz (Nat.lt_of_le_of_lt h1.1 q)
        omega
      | inr r =>
        obtain ⟨o9, w9⟩ := r
        cases h
        exact px_fin hC hret hlk hR hS hx (by omega) (by omega)
theorem prun_mon : ∀ (n M : Nat) (av : List Value) (w : PW) (r : PR), M < pNM → prun n M av w = some r → pMon w r := by
  intro n
  induction n with
  | zero => intro M av w r _ h; cases h
  | succ n ih =>
    intro M av w r hM h
    obtain ⟨o, wf⟩ := r
    unfold prun at h
    split at h
    · exact pex_pos ih hM _ _ _ _ _ h
    · cases h
set_option maxHeartbeats 8000000 in
theorem prun_all (hF : pFx l D cy sa sv b Ls z xs tx s0 a0) : ∀ (n M : Nat) (av : List Value) (w : PW) (v : Option Value) (wf : PW), M < pNM → prun n M av w = some (.inl v, wf) → pMet l D cy sa b Ls z xs tx s0 M av w v wf := by
  intro n
  induction n with
  | zero => intro M av w v wf _ h; cases h
  | succ n ih =>
    intro M av w v wf hM h
    unfold prun at h
    split at h
    · rename_i hlen
      obtain ⟨y1, y2, y3, y4, y5⟩ := okY_to_227 _ hM
      unfold pMet
      refine Met.ofW (ret := mR M) (ws' := []) y4 rfl (fun p e s m args below meth c s₁ B hml hP => ?_)
      obtain ⟨rfl, hW, hS, hR, hsz⟩ := hP
      have hown := findClass_of_methodNamed B.named
      rw [y3] at hown
      have hC : pCx p l D cy sa sv b Ls z xs tx s0 a0 M (pRm M w wf) s m c := ⟨B.exec, B.bytes, hml, hown, hM, hF, hW, hS, Nat.le_refl _, Nat.le_refl _⟩
      have hN := (name_of_methodNamed B.named B.method).1
      rw [lg_entry_eq]
      exact pex_snd ih (fun M' av w r h1 h2 => prun_mon n M' av w r h1 h2) hC hN B.returns B.notSynchronized (mc := wf.1 - w.1) (ms := wf.2.1 - w.2.1) (Nat.le_refl _) (Nat.le_refl _) (n + 1) 0 (pent M av) [] w s.heap [] _ 0 0 h hR va_S.rf (pls_entry _ av hlen) (fun q => by have := hsz q; omega) (by omega) (by omega)
    · cases h
end PGO
