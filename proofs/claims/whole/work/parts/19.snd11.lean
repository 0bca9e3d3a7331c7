/-! SOUNDNESS, 11: one step and whole runs over the kit -/
def pG (a : Nat × Nat × Nat × Nat × Nat × Nat × Nat) : ExceptionTableEntry := ⟨a.1, a.2.1, a.2.2.1, a.2.2.2.1⟩
theorem ptab (T : List (Nat × Nat × Nat × Nat × Nat × Nat × Nat)) : tableOf (T.map (fun h => (h.1, h.2.1, h.2.2.1, h.2.2.2.1))) = T.map pG := by
  unfold tableOf
  rw [List.map_map]
  rfl
theorem okHb_eq {M : Nat} {h : Nat × Nat × Nat × Nat × Nat × Nat × Nat} (hb : okHb M h = true) : h.2.2.2.1 ≠ 0 ∧ (h.2.2.2.1, h.2.2.2.2.1) ∈ kE (mC M) ∧ ((∃ k : Nat, decode (mB M) h.2.2.1 = .ok (.astore k, h.2.2.2.2.2.2) ∧ k = h.2.2.2.2.2.1 ∧ h.2.2.2.2.2.2 = 2) ∨ (∃ k : Fin 4, decode (mB M) h.2.2.1 = .ok (.astore_n k, h.2.2.2.2.2.2) ∧ (k : Nat) = h.2.2.2.2.2.1 ∧ h.2.2.2.2.2.2 = 1)) := by
  unfold okHb at hb
  simp only [Bool.and_eq_true] at hb
  obtain ⟨⟨h0, h1⟩, h2⟩ := hb
  have h0' : 0 < h.2.2.2.1 := Nat.le_of_ble_eq_true h0
  refine ⟨by omega, List.contains_iff_mem.mp h1, ?_⟩
  split at h2
  · rename_i k ln hd
    simp only [Bool.and_eq_true] at h2
    have e1 := Nat.eq_of_beq_eq_true h2.1.1
    have e2 := Nat.eq_of_beq_eq_true h2.1.2
    have e3 := Nat.eq_of_beq_eq_true h2.2
    exact Or.inl ⟨k, by rw [hd, e3], e1, by rw [← e3, e2]⟩
  · rename_i k ln hd
    simp only [Bool.and_eq_true] at h2
    have e1 := Nat.eq_of_beq_eq_true h2.1.1
    have e2 := Nat.eq_of_beq_eq_true h2.1.2
    have e3 := Nat.eq_of_beq_eq_true h2.2
    exact Or.inr ⟨k, by rw [hd, e3], e1, by rw [← e3, e2]⟩
  · cases h2
section PGO
variable {p : Program} {l : Launch} {e : Env} {R : Room} {s : State} {m : MethodId} {args : Array Value} {below : List Frame} {meth : Method} {c : Code} {H : Heap} {locs : List Loc} {cells slots : Nat} {Q : State → Prop}
variable {pc pc' ln : Nat} {i : Instr} {ls : Array Slot} {L L' : PL} {S S' : List Value} {w w' : PW}
variable {D : va_G} {cy : Nat → ClassId} {sa sv : Nat → Nat} {b Ls : Nat} {xs : Nat → Int32} {s0 : State} {a0 : Array Value} {M : Nat}
theorem prow_pass (hC : pCx p l D cy sa sv b Ls xs s0 a0 M R s m c) {a : Nat × Nat × Nat × Nat × Nat × Nat × Nat} (ha : a ∈ mH M) {E : Nat} (hE : E = 1 ∨ E = 2) (hn : (Nat.ble a.1 pc && Nat.blt pc a.2.1 && Nat.beq a.2.2.2.2.1 E) = false) :
    covers (pG a) pc = false ∨ ((pG a).catchType ≠ 0 ∧ ∃ nm : String, (Cond.classLink (cN (mC M)) (pG a).catchType nm).before args s = true ∧ va_Nc (eN E) nm s) := by
  obtain ⟨h0, h1, -⟩ := okHb_eq (List.all_eq_true.mp (okH_all M hC.2.2.2.2.1) a ha)
  obtain ⟨g1, g2⟩ := okE_all _ (mC_lt M hC.2.2.2.2.1) _ h1
  by_cases hcov : covers (pG a) pc = true
  · have hcov' : (decide (a.1 ≤ pc) && decide (pc < a.2.1)) = true := hcov
    simp only [Bool.and_eq_true, decide_eq_true_eq] at hcov'
    have e1 : Nat.ble a.1 pc = true := Nat.ble_eq_true_of_le hcov'.1
    have e2 : Nat.blt pc a.2.1 = true := Nat.ble_eq_true_of_le hcov'.2
    rw [e1, e2] at hn
    have hne : a.2.2.2.2.1 ≠ E := by
      intro q
      rw [q] at hn
      have : Nat.beq E E = true := Nat.beq_refl E
      rw [this] at hn
      cases hn
    refine Or.inr ⟨h0, eN a.2.2.2.2.1, pw_tg hC g2 args, pcx_Nc hC ?_⟩
    dsimp only at g1
    omega
  · exact Or.inl (by cases hq : covers (pG a) pc with
      | false => rfl
      | true => exact absurd hq hcov)
set_option maxHeartbeats 4000000 in
theorem pcatch (hC : pCx p l D cy sa sv b Ls xs s0 a0 M R s m c) (hTab : c.exceptionTable.toList = tableOf ((mH M).map (fun h => (h.1, h.2.1, h.2.2.1, h.2.2.2.1)))) {E hd9 loc ln9 : Nat} (hphd : phd M pc E = some (hd9, loc, ln9)) (hloc : loc < L.length) (hE : E = 1 ∨ E = 2) (hl : pLs (pad s0.heap.size sa b) (mN M) ls L)
    {ce : Cell} {q : Addr} {rest : List Value} (hce : H[q]? = some ce) (hcv : ce.vm = .none) (hcl : s.vm.findClass (eN E) = some ce.cls)
    (kk : ∀ ls1 : Array Slot, pLs (pad s0.heap.size sa b) (mN M) ls1 ((pst1 L loc (.int 0)).set loc none) → W p l e R s m args below meth c H locs cells slots Q (F0 m (hd9 + ln9) ls1 [])) : vx_W p l e R s m args below meth c H locs cells slots Q (F0 m pc ls rest) q := by
  have hx := hC.1
  have hb := hC.2.1
  obtain ⟨row, as, bs, hsp, hp, has, rfl, rfl, rfl⟩ := phd_f hphd
  have hmem : row ∈ mH M := by rw [hsp]; simp
  simp only [Bool.and_eq_true] at hp
  obtain ⟨h0, h1, hdec⟩ := okHb_eq (List.all_eq_true.mp (okH_all M hC.2.2.2.2.1) row hmem)
  obtain ⟨g1, g2⟩ := okE_all _ (mC_lt M hC.2.2.2.2.1) _ h1
  have hEq : row.2.2.2.2.1 = E := Nat.eq_of_beq_eq_true hp.2
  dsimp only at g2
  rw [hEq] at g2
  have hcov : covers (pG row) pc = true := by
    show (decide (row.1 ≤ pc) && decide (pc < row.2.1)) = true
    have e1 := Nat.le_of_ble_eq_true hp.1.1
    have e2 : pc < row.2.1 := Nat.le_of_ble_eq_true hp.1.2
    simp [e1, e2]
  have hcast : (Cond.castable (eN E) (eN E)).before args s = true := by
    rcases hE with rfl | rfl
    · exact pcx_cast hC okX_7.1 args
    · exact pcx_cast hC okX_7.2.1 args
  refine vx_catch (own := cN (mC M)) (name := eN E) hC.2.2.2.1 (as.map pG) (pG row) (bs.map pG) (by rw [hTab, ptab, hsp, List.map_append, List.map_cons]) (fun z hz => ?_) hcov h0 (pw_tg hC g2 args) hcast hce hcv hcl ?_
  · obtain ⟨a, ha, rfl⟩ := List.mem_map.mp hz
    exact prow_pass hC (by rw [hsp]; exact List.mem_append_left _ ha) hE (has a ha)
  · show W p l e R s m args below meth c H locs cells slots Q (F0 m row.2.2.1 ls [.ref q])
    have hn : row.2.2.2.2.2.1 < mN M := by rw [← hl.2.1]; exact hloc
    rcases hdec with ⟨k, d1, d2, d3⟩ | ⟨k, d1, d2, d3⟩
    · subst d2
      rw [d3] at d1 kk
      exact lv_astore hx hb d1 (pls_has hl) hn rfl (fun ls9 h9 => kk ls9 (pls_st1o hl.2.1 hn h9))
    · rw [d3] at d1 kk
      exact lv_astore_n hx hb d1 d2 (pls_has hl) hn rfl (fun ls9 h9 => kk ls9 (pls_st1o hl.2.1 hn h9))
set_option maxHeartbeats 8000000 in
theorem px_go {call : Nat → List Value → PW → Option PR} (hcall : ∀ M' av w r, M' < 355 → call M' av w = some r → pMet l D cy sa b Ls xs s0 M' av w r ∧ pMon M' w r)
    (hC : pCx p l D cy sa sv b Ls xs s0 a0 M R s m c) (hTab : c.exceptionTable.toList = tableOf ((mH M).map (fun h => (h.1, h.2.1, h.2.2.1, h.2.2.2.1)))) (hN : meth.name = (mY M).name)
    (hR : pRi D (pad s0.heap.size sa b) cy Ls xs w H) (hS : va_S (pA s0.heap.size) s.heap H locs) (hl : pLs (pad s0.heap.size sa b) (mN M) ls L) (hz : w.1 < pNA → s.heap.size + cells ≤ s0.heap.size + w.1)
    (h : px call M (pc, L, S, w) = some (.inl (pc', L', S', w'))) (hc1 : cells + xD M pc pc' w w' ≤ R.cells) (hs1 : slots + xE M pc pc' w w' ≤ R.slots)
    (k : ∀ (H1 : Heap) (locs1 : List Loc) (ls1 : Array Slot) (cells1 slots1 : Nat), cells1 ≤ cells + xD M pc pc' w w' → slots1 ≤ slots + xE M pc pc' w w' → pRi D (pad s0.heap.size sa b) cy Ls xs w' H1 → va_S (pA s0.heap.size) s.heap H1 locs1 → pLs (pad s0.heap.size sa b) (mN M) ls1 L' → W p l e R s m args below meth c H1 locs1 cells1 slots1 Q (F0 m pc' ls1 (S'.map (mV (pad s0.heap.size sa b))))) :
    W p l e R s m args below meth c H locs cells slots Q (F0 m pc ls (S.map (mV (pad s0.heap.size sa b)))) := by
  have hx := hC.1
  have hb := hC.2.1
  have hMl := hC.2.2.2.2.1
  have hover : va_AO "PinBarrel$Box" s := va_AO.moved hC.2.2.2.2.2.2.1.alike (va_AO.of (hC.2.2.2.2.2.1.1.1 _ okA_over))
  have hcR : cells ≤ R.cells := by omega
  have hsR : slots ≤ R.slots := by omega
  have hcW : cells + (w'.1 - w.1) ≤ R.cells := by unfold xD at hc1; omega
  have hsW : slots + (w'.2.1 - w.2.1) ≤ R.slots := by unfold xE at hs1; omega
  unfold px at h
  dsimp only at h
  split at h
  · cases h
  · rename_i i len hd
    split at h
    · split at h
      · rename_i hf
        split at h
        · rename_i hln
          cases h
          subst hln
          exact pf_snd hx hb hd hf hl (fun ls1 hl1 => k H locs ls1 cells slots (Nat.le_add_right _ _) (Nat.le_add_right _ _) hR hS hl1)
        · cases h
      · cases h
    · split at h
      · rename_i hf
        split at h
        · rename_i hc9
          have ht := (Int.toNat_of_nonneg hc9.2).symm
          split at h
          · rename_i htk
            unfold pjp at h
            split at h
            · cases h
              refine pb_snd hx hb hd hf hc9.1 ht ?_
              rw [if_pos htk]
              exact k H locs ls cells slots (Nat.le_add_right _ _) (Nat.le_add_right _ _) hR hS hl
            · cases h
          · rename_i htk
            cases h
            refine pb_snd hx hb hd hf hc9.1 ht ?_
            rw [if_neg htk]
            exact k H locs ls cells slots (Nat.le_add_right _ _) (Nat.le_add_right _ _) hR hS hl
        · cases h
      · cases h
    · split at h
      · rename_i hf
        split at h
        · rename_i hln
          cases h
          subst hln
          exact pld_snd hC hR hS hd hf (fun hw => k H locs ls cells slots (Nat.le_add_right _ _) (Nat.le_add_right _ _) (by rw [hw]; exact hR) hS hl)
        · cases h
      · cases h
    · split at h
      · rename_i hf
        split at h
        · rename_i hln
          cases h
          subst hln
          exact psw_snd hC hover hN hR hS hz hcW hsW hd hf (fun H1 locs1 cells1 slots1 e1 e2 hR1 hS1 => k H1 locs1 ls cells1 slots1 (by rw [e1]; unfold xD; omega) (by rw [e2]; unfold xE; omega) hR1 hS1 hl)
        · cases h
      · cases h
    · split at h
      · split at h
        · cases h
        · cases h
      · cases h
    · split at h
      · rename_i hl3
        subst hl3
        split at h
        · rename_i M' av rest hcl
          obtain ⟨hlt, hok⟩ := pcl_lt hMl hcl
          have p3 := (pok_eq hok).2.2
          cases hcc : call M' av w with
          | none => rw [hcc] at h; unfold pac at h; cases h
          | some r =>
            have hg := hcall _ _ _ _ hlt hcc
            rw [hcc] at h
            obtain ⟨o, w1⟩ := r
            refine W_size fun hsize => ?_
            have hsz : w.1 < pNA → H.size ≤ s0.heap.size + w.1 := fun hw => Nat.le_trans hsize (hz hw)
            cases o with
            | inl v =>
              unfold pac at h
              cases h
              have eC : xC M' w w' ≤ xD M pc (pc + 3) w w' := by
                unfold xC xD
                by_cases q : w'.1 < pNA
                · rw [if_pos q, if_pos q]; omega
                · rw [if_neg q, if_neg q]; omega
              have eS : xS M' w w' ≤ xE M pc (pc + 3) w w' := by
                unfold xS xE
                by_cases q : w'.1 < pNA
                · rw [if_pos q, if_pos q]; omega
                · rw [if_neg q, if_neg q]; omega
              refine prun_use (pcall_run hC hR hS hl.1 hd hcl (fun _ => hg.1) (fun E hE => (hg.2.2.2 E hE).2) hsz (by show cells + xC M' w w' ≤ R.cells; omega) (by show slots + xS M' w w' ≤ R.slots; omega)) hS (fun E hE => by cases hE) (fun v9 hv H1 locs1 hR1 hS1 => ?_)
              cases hv
              have g := k H1 locs1 ls (cells + xC M' w w') (slots + xS M' w w') (by omega) (by omega) hR1 hS1 hl
              rw [List.map_append, ← opt_map] at g
              exact g
            | inr E =>
              unfold pac at h
              dsimp only at h
              split at h
              · rename_i hd9 loc ln9 hphd
                split at h
                · rename_i hh
                  cases h
                  have hE9 := (hg.2.2.2 E rfl).1
                  have p4 : phi M (hd9 + ln9) ≤ phi M (pc + 3) := phs_mono _ (by omega)
                  have eC : xC M' w w' ≤ xD M pc (hd9 + ln9) w w' := by
                    unfold xC xD
                    by_cases q : w'.1 < pNA
                    · rw [if_pos q, if_pos q]; omega
                    · rw [if_neg q, if_neg q]; omega
                  have eS : xS M' w w' ≤ xE M pc (hd9 + ln9) w w' := by
                    unfold xS xE
                    by_cases q : w'.1 < pNA
                    · rw [if_pos q, if_pos q]; omega
                    · rw [if_neg q, if_neg q]; omega
                  refine prun_use (pcall_run hC hR hS hl.1 hd hcl (fun _ => hg.1) (fun E hE => (hg.2.2.2 E hE).2) hsz (by show cells + xC M' w w' ≤ R.cells; omega) (by show slots + xS M' w w' ≤ R.slots; omega)) hS (fun E9 hE ce q H1 locs1 hR1 hS1 hce hcv hcl9 => ?_) (fun v9 hv => by cases hv)
                  cases hE
                  exact pcatch hC hTab hphd hh.2 hE9 hl hce hcv hcl9 (fun ls1 hl1 => k H1 locs1 ls1 (cells + xC M' w w') (slots + xS M' w w') (by omega) (by omega) hR1 hS1 hl1)
                · cases h
              · cases h
        · split at h
          · rename_i hf
            cases h
            exact pna_snd hC hR hS hl.1 hcR hsR hd hf (fun H1 locs1 _ _ hR1 hS1 => k H1 locs1 ls cells slots (Nat.le_add_right _ _) (Nat.le_add_right _ _) hR1 hS1 hl)
          · cases h
      · cases h
    · split at h
      · rename_i hl3
        subst hl3
        split at h
        · rename_i hf
          split at h
          · rename_i hln
            cases h
            subst hln
            exact psw_snd hC hover hN hR hS hz hcW hsW hd hf (fun H1 locs1 cells1 slots1 e1 e2 hR1 hS1 => k H1 locs1 ls cells1 slots1 (by rw [e1]; unfold xD; omega) (by rw [e2]; unfold xE; omega) hR1 hS1 hl)
          · cases h
        · split at h
          · cases h
          · cases h
      · cases h
set_option maxHeartbeats 8000000 in
theorem px_fin {call : Nat → List Value → PW → Option PR} (hcall : ∀ M' av w r, M' < 355 → call M' av w = some r → pMet l D cy sa b Ls xs s0 M' av w r ∧ pMon M' w r)
    (hC : pCx p l D cy sa sv b Ls xs s0 a0 M R s m c) (hTab : c.exceptionTable.toList = tableOf ((mH M).map (fun h => (h.1, h.2.1, h.2.2.1, h.2.2.2.1)))) (hret : meth.sig.returnType = mR M) (hlk : meth.locks = false)
    (hR : pRi D (pad s0.heap.size sa b) cy Ls xs w H) (hS : va_S (pA s0.heap.size) s.heap H locs) (hl : pLs (pad s0.heap.size sa b) (mN M) ls L) (hz : w.1 < pNA → s.heap.size + cells ≤ s0.heap.size + w.1) {o : PO}
    (h : px call M (pc, L, S, w) = some (.inr (o, w'))) {mc ms : Nat} (hc1 : cells + (w'.1 - w.1) + (if w'.1 < pNA then 0 else phi M pc) ≤ mc) (hs1 : slots + (w'.2.1 - w.2.1) + (if w'.1 < pNA then 0 else 6 * phi M pc) ≤ ms) (hmc : mc ≤ R.cells) (hms : ms ≤ R.slots) :
    W p l e R s m args below meth c H locs cells slots (vx_MQ below (pQc D cy sa b Ls xs s0 o w') (pXc D cy sa b Ls xs s0 o w') args s mc ms (pA s0.heap.size)) (F0 m pc ls (S.map (mV (pad s0.heap.size sa b)))) := by
  have hx := hC.1
  have hb := hC.2.1
  have hMl := hC.2.2.2.2.1
  unfold px at h
  dsimp only at h
  split at h
  · cases h
  · rename_i i len hd
    split at h
    · repeat' split at h
      all_goals cases h
    · split at h
      · split at h
        · split at h
          · unfold pjp at h
            split at h
            · cases h
            · cases h
          · cases h
        · cases h
      · cases h
    · repeat' split at h
      all_goals cases h
    · repeat' split at h
      all_goals cases h
    · split at h
      · rename_i v hf
        split at h
        · rename_i hl1
          subst hl1
          cases h
          exact prt_snd hx hb hret hlk hd hf (fun t ht _ => ⟨v, rfl, rfl, hS.F ht, by rw [ht]; exact hR⟩) hS.2.2 (by omega) (by omega)
        · cases h
      · cases h
    · split at h
      · rename_i hl3
        subst hl3
        split at h
        · rename_i M' av rest hcl
          obtain ⟨hlt, hok⟩ := pcl_lt hMl hcl
          have p3 := (pok_eq hok).2.2
          cases hcc : call M' av w with
          | none => rw [hcc] at h; unfold pac at h; cases h
          | some r =>
            have hg := hcall _ _ _ _ hlt hcc
            rw [hcc] at h
            obtain ⟨o9, w1⟩ := r
            refine W_size fun hsize => ?_
            have hsz : w.1 < pNA → H.size ≤ s0.heap.size + w.1 := fun hw => Nat.le_trans hsize (hz hw)
            cases o9 with
            | inl v =>
              unfold pac at h
              cases h
            | inr E =>
              unfold pac at h
              dsimp only at h
              split at h
              · split at h
                · cases h
                · cases h
              · rename_i hphd
                cases h
                have hE9 := (hg.2.2.2 E rfl).1
                have eC : cells + xC M' w w' ≤ mc := by
                  unfold xC
                  by_cases q : w'.1 < pNA
                  · rw [if_pos q] at hc1 ⊢; omega
                  · rw [if_neg q] at hc1 ⊢; omega
                have eS : slots + xS M' w w' ≤ ms := by
                  unfold xS
                  by_cases q : w'.1 < pNA
                  · rw [if_pos q] at hs1 ⊢; omega
                  · rw [if_neg q] at hs1 ⊢; omega
                refine prun_use (pcall_run hC hR hS hl.1 hd hcl (fun _ => hg.1) (fun E hE => (hg.2.2.2 E hE).2) hsz (by show cells + xC M' w w' ≤ R.cells; omega) (by show slots + xS M' w w' ≤ R.slots; omega)) hS (fun E9 hE ce q H1 locs1 hR1 hS1 hce hcv hcl9 => ?_) (fun v9 hv => by cases hv)
                cases hE
                exact vx_outP (own := cN (mC M)) hC.2.2.2.1 hlk (fun z hz9 => by
                  rw [hTab, ptab] at hz9
                  obtain ⟨a, ha, rfl⟩ := List.mem_map.mp hz9
                  exact prow_pass hC ha hE9 (phd_n hphd a ha)) hce hcv hcl9 (fun t ht _ => ⟨E, rfl, rfl, hS1.F ht, by rw [ht]; exact hR1⟩) hS1.2.2 eC eS
        · split at h
          · cases h
          · cases h
      · cases h
    · split at h
      · rename_i hl3
        subst hl3
        split at h
        · split at h
          · cases h
          · cases h
        · split at h
          · rename_i hf
            cases h
            obtain ⟨f1, f2, f3⟩ := pth_f hMl hf
            rw [if_neg (Nat.not_lt.mpr f1)] at hc1 hs1
            exact pth_snd hC hTab hlk hR hS hl.1 (by omega) (by omega) (by omega) (by omega) hd hf
          · cases h
      · cases h
set_option maxHeartbeats 8000000 in
theorem pex_snd {call : Nat → List Value → PW → Option PR} (hcall : ∀ M' av w r, M' < 355 → call M' av w = some r → pMet l D cy sa b Ls xs s0 M' av w r ∧ pMon M' w r)
    (hC : pCx p l D cy sa sv b Ls xs s0 a0 M R s m c) (hTab : c.exceptionTable.toList = tableOf ((mH M).map (fun h => (h.1, h.2.1, h.2.2.1, h.2.2.2.1)))) (hN : meth.name = (mY M).name) (hret : meth.sig.returnType = mR M) (hlk : meth.locks = false) {o : PO} {wf : PW} {mc ms : Nat} (hmc : mc ≤ R.cells) (hms : ms ≤ R.slots) :
    ∀ (k pc : Nat) (L : PL) (S : List Value) (w : PW) (H : Heap) (locs : List Loc) (ls : Array Slot) (cells slots : Nat), pex call k M (pc, L, S, w) = some (o, wf) → pRi D (pad s0.heap.size sa b) cy Ls xs w H → va_S (pA s0.heap.size) s.heap H locs → pLs (pad s0.heap.size sa b) (mN M) ls L → (w.1 < pNA → s.heap.size + cells ≤ s0.heap.size + w.1) →
      cells + (wf.1 - w.1) + (if wf.1 < pNA then 0 else phi M pc) ≤ mc → slots + (wf.2.1 - w.2.1) + (if wf.1 < pNA then 0 else 6 * phi M pc) ≤ ms →
      W p l e R s m args below meth c H locs cells slots (vx_MQ below (pQc D cy sa b Ls xs s0 o wf) (pXc D cy sa b Ls xs s0 o wf) args s mc ms (pA s0.heap.size)) (F0 m pc ls (S.map (mV (pad s0.heap.size sa b)))) := by
  have hmon : ∀ M' av w r, M' < 355 → call M' av w = some r → pMon M' w r := fun M' av w r h1 h2 => (hcall M' av w r h1 h2).2
  intro k
  induction k with
  | zero => intro pc L S w H locs ls cells slots h; cases h
  | succ k ih =>
    intro pc L S w H locs ls cells slots h hR hS hl hz hc hs
    unfold pex at h
    cases hx : px call M (pc, L, S, w) with
    | none => rw [hx] at h; cases h
    | some z =>
      rw [hx] at h
      cases z with
      | inl c' =>
        obtain ⟨pc', L', S', w'⟩ := c'
        have h1 := px_pos hmon hC.2.2.2.2.1 hx
        have h2 := pex_pos hmon hC.2.2.2.2.1 k pc' L' S' w' h
        have b1 : cells + xD M pc pc' w w' + (wf.1 - w'.1) + (if wf.1 < pNA then 0 else phi M pc') ≤ mc := by
          unfold xD
          by_cases q : wf.1 < pNA
          · rw [if_pos q] at hc ⊢
            rw [if_pos (Nat.lt_of_le_of_lt h2.1 q)]
            omega
          · rw [if_neg q] at hc ⊢
            by_cases q2 : w'.1 < pNA
            · rw [if_pos q2]; omega
            · rw [if_neg q2]; omega
        have b2 : slots + xE M pc pc' w w' + (wf.2.1 - w'.2.1) + (if wf.1 < pNA then 0 else 6 * phi M pc') ≤ ms := by
          unfold xE
          by_cases q : wf.1 < pNA
          · rw [if_pos q] at hs ⊢
            rw [if_pos (Nat.lt_of_le_of_lt h2.1 q)]
            omega
          · rw [if_neg q] at hs ⊢
            by_cases q2 : w'.1 < pNA
            · rw [if_pos q2]; omega
            · rw [if_neg q2]; omega
        refine px_go hcall hC hTab hN hR hS hl hz hx (by omega) (by omega) (fun H1 locs1 ls1 cells1 slots1 e1 e2 hR1 hS1 hl1 => ih pc' L' S' w' H1 locs1 ls1 cells1 slots1 h hR1 hS1 hl1 (fun q => ?_) (by omega) (by omega))
        have e3 : xD M pc pc' w w' = w'.1 - w.1 := by
          unfold xD
          rw [if_pos q]
          rfl
        have := hz (Nat.lt_of_le_of_lt h1.1 q)
        omega
      | inr r =>
        obtain ⟨o9, w9⟩ := r
        cases h
        exact px_fin hcall hC hTab hret hlk hR hS hl hz hx hc hs hmc hms
set_option maxHeartbeats 8000000 in
theorem prun_all (hF : pFx l D cy sa sv b Ls xs s0 a0) : ∀ (n M : Nat) (av : List Value) (w : PW) (r : PR), M < 355 → prun n M av w = some r → pMet l D cy sa b Ls xs s0 M av w r ∧ pMon M w r := by
  intro n
  induction n with
  | zero => intro M av w r _ h; cases h
  | succ n ih =>
    intro M av w r hM h
    obtain ⟨o, wf⟩ := r
    unfold prun at h
    split at h
    · rename_i hlen
      have hM6 : M < 356 := by omega
      have hmon : ∀ M' av w r, M' < 355 → prun n M' av w = some r → pMon M' w r := fun M' av w r h1 h2 => (ih M' av w r h1 h2).2
      have hp := pex_pos hmon hM6 _ _ _ _ _ h
      have hphi := phi_le hM6 0
      refine ⟨?_, hp.1, hp.2.1, fun E hE => ⟨(hp.2.2 E hE).1, Nat.le_trans (hp.2.2 E hE).2 hphi⟩⟩
      obtain ⟨y1, y2, y3, y4, y5⟩ := okY_to_355 _ hM
      have hc0 : 0 + (wf.1 - w.1) + (if wf.1 < pNA then 0 else phi M 0) ≤ xC M w wf := by
        unfold xC
        by_cases q : wf.1 < pNA
        · rw [if_pos q, if_pos q]; omega
        · rw [if_neg q, if_neg q]; omega
      have hs0 : 0 + (wf.2.1 - w.2.1) + (if wf.1 < pNA then 0 else 6 * phi M 0) ≤ xS M w wf := by
        unfold xS
        by_cases q : wf.1 < pNA
        · rw [if_pos q, if_pos q]; omega
        · rw [if_neg q, if_neg q]; omega
      have body : ∀ (p : Program) (e : Env) (s : State) (m : MethodId) (args : Array Value) (below : List Frame) (meth : Method) (c : Code) (s₁ : State), BodyLoose p l (mY M) (headSpec [mWd M] (pRm M w wf)) (mB M) (mN M) (mR M) e s m args below meth c s₁ → c.maxLocals = mN M → c.exceptionTable.toList = tableOf ((mH M).map (fun h => (h.1, h.2.1, h.2.2.1, h.2.2.2.1))) → pPre D cy sa b Ls xs s0 av w args s →
          W p l e (headSpec [mWd M] (pRm M w wf)).room s m args below meth c s.heap [] 0 0 (vx_MQ below (pQc D cy sa b Ls xs s0 o wf) (pXc D cy sa b Ls xs s0 o wf) args s (xC M w wf) (xS M w wf) (pA s0.heap.size)) (entryFrame m args (mN M)) := by
        intro p e s m args below meth c s₁ B hml hTab hP
        obtain ⟨rfl, hW, hS, hR, hsz⟩ := hP
        have hown := findClass_of_methodNamed B.named
        rw [y3] at hown
        have hC : pCx p l D cy sa sv b Ls xs s0 a0 M (pRm M w wf) s m c := ⟨B.exec, B.bytes, hml, hown, hM6, hF, hW, hS, Nat.le_refl _, Nat.le_refl _⟩
        have hN := (name_of_methodNamed B.named B.method).1
        rw [lg_entry_eq]
        exact pex_snd ih hC hTab hN B.returns B.notSynchronized (mc := xC M w wf) (ms := xS M w wf) (Nat.le_refl _) (Nat.le_refl _) (n + 1) 0 (pent M av) [] w s.heap [] _ 0 0 h hR va_S.rf (pls_entry _ av hlen) (fun q => by have := hsz q; omega) hc0 hs0
      unfold pMet
      by_cases hh : mH M = []
      · refine vx_ofW (ret := mR M) (ws' := []) y4 (by rw [mWd_c hh]) (fun p e s m args below meth c s₁ B hml ht hP => body p e s m args below meth c s₁ B hml ?_ hP)
        rw [hh]
        cases hq : c.exceptionTable.toList with
        | nil => rfl
        | cons x t => exact (ht x (by rw [hq]; exact List.mem_cons_self)).elim
      · have hh' : (mH M).isEmpty = false := by
          cases hq : mH M with
          | nil => exact absurd hq hh
          | cons x t => rfl
        have hws : [mWd M] = Cond.codeWith (mY M) (mB M) (mN M) (mR M) ((mH M).map (fun h => (h.1, h.2.1, h.2.2.1, h.2.2.2.1))) :: [] := by rw [mWd_h hh']
        refine vx_ofWH (ret := mR M) (ws' := []) y4 hws (fun p e s m args below meth c s₁ B hml hP => body p e s m args below meth c s₁ B hml ?_ hP)
        exact vx_table (x := mY M) B (atoms_spec (ws := [mWd M]) B.pre _ (by rw [hws]; exact List.mem_cons_self))
    · cases h
end PGO
