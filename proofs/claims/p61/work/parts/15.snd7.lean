/-! SOUNDNESS, 7: what the machine takes whole; returns -/
theorem pmin_eq (x y : Int32) : (if y < x then y else x) = (if x < y then x else y) := by
  by_cases h1 : y < x
  · have h2 : ¬ x < y := fun h => by
      have a := Int32.lt_iff_toInt_lt.mp h1
      have b := Int32.lt_iff_toInt_lt.mp h
      omega
    rw [if_pos h1, if_neg h2]
  · by_cases h2 : x < y
    · rw [if_neg h1, if_pos h2]
    · rw [if_neg h1, if_neg h2]
      have a : ¬ y.toInt < x.toInt := fun h => h1 (Int32.lt_iff_toInt_lt.mpr h)
      have b : ¬ x.toInt < y.toInt := fun h => h2 (Int32.lt_iff_toInt_lt.mpr h)
      exact Int32.toInt_inj.mp (by omega)
theorem pas_trans {A : Nat → Prop} {H0 H1 H2 : Heap} {L1 L2 : List Loc} (h : va_S A H0 H1 L1) (g : va_S A H1 H2 L2) : va_S A H0 H2 L2 :=
  ⟨Nat.le_trans h.1 g.1, fun q h1 h2 => (g.2.1 q (Nat.lt_of_lt_of_le h1 h.1) h2).trans (h.2.1 q h1 h2), g.2.2⟩
theorem pas_nil {A : Nat → Prop} {H0 H1 : Heap} {L1 : List Loc} (h : va_S A H0 H1 L1) : va_S A H0 H1 [] := ⟨h.1, h.2.1, fun _ q => by cases q⟩
theorem pcat8 (ad : Nat → Nat) {S : List Value} (h : S.length ≤ 4) : ((S.map (mV ad)).map fun v => v.category).sum ≤ 8 := by
  have := cat_sum S
  rw [mV_cats]
  omega
section PNA
variable {p : Program} {l : Launch} {e : Env} {R : Room} {s : State} {m : MethodId} {args : Array Value} {below : List Frame} {meth : Method} {c : Code} {H : Heap} {locs : List Loc} {cells slots : Nat} {Q : State → Prop}
variable {pc ln : Nat} {i : Instr} {ls : Array Slot} {S S' : List Value} {w w' : PW}
variable {D : va_G} {cy : Nat → ClassId} {sa sv : Nat → Nat} {b Ls z : Nat} {xs : Nat → Int32} {tx : List Nat} {s0 : State} {a0 : Array Value} {M : Nat}
theorem pcx_str (hC : pCx p l D cy sa sv b Ls z xs tx s0 a0 M R s m c) {t : List Nat} {ad av : Nat} (h : pSt t ad av (pA z s0.heap.size) s0 s0.heap) : pSt t ad av (pA z s0.heap.size) s s.heap :=
  (pSt.moved hC.2.2.2.2.2.2.1.alike h).kept hC.2.2.2.2.2.2.2.1.2.1
theorem pcx_S (hC : pCx p l D cy sa sv b Ls z xs tx s0 a0 M R s m c) : va_S (pA z s0.heap.size) s0.heap s.heap [] := hC.2.2.2.2.2.2.2.1
theorem pstr_at {a z : Nat} (h1 : pSB ≤ a) (h2 : a < pSB + sTx.length) : a - pSB < 38 ∧ pad z sa b a = sa (a - pSB) := by
  have h3 : a - pSB < 38 := by
    have : sTx.length = 38 := rfl
    omega
  refine ⟨h3, ?_⟩
  have e : a = pSB + (a - pSB) := by omega
  have h4 : a - pSB < 1000000 := Nat.lt_trans h3 (by decide)
  have g := pad_sb (z := z) (sa := sa) (b := b) h4
  rwa [← e] at g
theorem ptx_eq {a : Nat} {fs : List Value} (hR : pRi D (pad z sa b) cy Ls xs tx w H) (h : ptx w a = some fs) : a = pTX ∧ fs = pTf tx ∧ pad z sa b a = sa 500000 := by
  unfold ptx at h
  split at h
  · rename_i c9 fs9 he
    split at h
    · rename_i hc
      obtain ⟨rfl, rfl⟩ := hc
      cases h
      rw [hR.2.2.2.1.2] at he
      cases he
      exact ⟨rfl, rfl, pad_sb (z := z) (sa := sa) (b := b) (i := 500000) (by decide)⟩
    · cases h
  · cases h
set_option maxHeartbeats 4000000 in
theorem pna_snd (hC : pCx p l D cy sa sv b Ls z xs tx s0 a0 M R s m c) (hR : pRi D (pad z sa b) cy Ls xs tx w H) (hS : va_S (pA z s0.heap.size) s.heap H locs) (hls : ls.size = mN M) (hcs : cells ≤ R.cells) (hss : slots ≤ R.slots)
    (hd : decode (mB M) pc = .ok (i, 3)) (hf : pna M i S w = some (S', w'))
    (k : ∀ (H1 : Heap) (locs1 : List Loc), w'.1 = w.1 → w'.2.1 = w.2.1 → pRi D (pad z sa b) cy Ls xs tx w' H1 → va_S (pA z s0.heap.size) s.heap H1 locs1 → W p l e R s m args below meth c H1 locs1 cells slots Q (F0 m (pc + 3) ls (S'.map (mV (pad z sa b))))) :
    W p l e R s m args below meth c H locs cells slots Q (F0 m pc ls (S.map (mV (pad z sa b)))) := by
  have hx := hC.1
  have hb := hC.2.1
  have hml := hC.2.2.1
  have hown := hC.2.2.2.1
  have hF := hC.2.2.2.2.2.1
  have hWr := hC.2.2.2.2.2.2.1
  have hfr := hC.2.2.2.2.2.2.2.2.1
  have hlo := hC.2.2.2.2.2.2.2.2.2
  have hK := pw_K hC
  have hM := mC_lt M hC.2.2.2.2.1
  have hP := hR.1
  have hD := pD (z := z) (n0 := s0.heap.size) (sa := sa) (b := b) (cy := cy) hR.2.1
  have hT : ∀ w ∈ TG, w.before args s = true := fun w h => pw_tg hC h args
  have hpre : ∀ (av : List Value) (U : State), U.heap = H → s.WarmedH U.vm → pcJ z s0 av av.toArray U := fun av U hU hWU => ⟨rfl, State.WarmedH.trans hWr hWU, by rw [hU]; exact pas_nil (pas_trans (pcx_S hC) hS)⟩
  have hmx : c.maxLocals = ls.size := hml.trans hls.symm
  unfold pna at hf
  split at hf
  · rename_i idx
    split at hf
    · rename_i M9 n9 k9 hl
      have hok := okM_all _ hM _ (plk_mem hl)
      split at hf
      · rename_i hk
        rcases hk with rfl | rfl
        · simp only [pnat] at hf
          split at hf
          · rename_i a S9
            have go : ∀ {t : List Nat} {ad av : Nat}, pSt t ad av (pA z s0.heap.size) s0 s0.heap → pch t → pad z sa b a = ad → 3 ≤ mF M → 100 ≤ mLo M → S9.length ≤ 4 → (∀ (H1 : Heap) (locs1 : List Loc), pRi D (pad z sa b) cy Ls xs tx w H1 → va_S (pA z s0.heap.size) s.heap H1 locs1 → W p l e R s m args below meth c H1 locs1 cells slots Q (F0 m (pc + 3) ls (.int (Int32.ofNat t.length) :: List.map (mV (pad z sa b)) S9))) → W p l e R s m args below meth c H locs cells slots Q (F0 m pc ls (.ref (pad z sa b a) :: List.map (mV (pad z sa b)) S9)) := by
              intro t ad av hE0 hch0 ea h3 h4 h5 kk
              rw [ea]
              exact W.callR (W.runV (C := "java/lang/String") (Ts := TG) (As := []) (n := 0) (nL := mN M) (rest := S9.map (mV (pad z sa b))) ⟨hx, hb, hml, hown, hT⟩ (pj_len hF hE0 hch0) ⟨pj_cb hT okK_len_c okK_iS hok ⟨by decide, by decide, by decide +kernel⟩ ⟨by show 1 + 1 ≤ _; omega, by show 8 + (1 + 11) + 20 ≤ _; omega⟩, hT _ okK_len_i, hT _ okK_len_v⟩ ⟨pcJ_blind, vk_recv (pcx_str hC hE0) Nat.zero_lt_one hS, hpre _⟩ rfl rfl hls rfl (by show 2 * 0 + _ ≤ 8; have := pcat8 (pad z sa b) h5; omega) hd ⟨hcs, hss⟩) (kk H locs hR hS)
            split at hf
            · rename_i hcond
              obtain ⟨h1, h2, h3, h4, h5⟩ := hcond
              cases hf
              obtain ⟨hi, ea⟩ := pstr_at (z := z) (sa := sa) (b := b) h1 h2
              exact go (hF.2.1 _ hi) (sOw_ch _ hi) ea h3 h4 h5 (fun H1 locs1 g1 g2 => k H1 locs1 rfl rfl g1 g2)
            · split at hf
              · rename_i fs hpt
                obtain ⟨-, rfl, ea⟩ := ptx_eq hR hpt
                split at hf
                · rename_i hcond
                  obtain ⟨h3, h4, h5⟩ := hcond
                  cases hf
                  refine go hF.2.2.1 hF.2.2.2.1 ea h3 h4 h5 (fun H1 locs1 g1 g2 => ?_)
                  have e9 : tx.length = (pTf tx).length := by unfold pTf; rw [List.length_map]
                  rw [e9]
                  exact k H1 locs1 rfl rfl g1 g2
                · cases hf
              · cases hf
          · cases hf
        · simp only [pnat] at hf
          split at hf
          · rename_i x a S9
            have go : ∀ {t : List Nat} {ad av : Nat}, pSt t ad av (pA z s0.heap.size) s0 s0.heap → pch t → pad z sa b a = ad → 6 ≤ mF M → 160 ≤ mLo M → S9.length ≤ 4 → ¬ x < 0 → x.toNatClampNeg < t.length → (∀ (H1 : Heap) (locs1 : List Loc), pRi D (pad z sa b) cy Ls xs tx w H1 → va_S (pA z s0.heap.size) s.heap H1 locs1 → W p l e R s m args below meth c H1 locs1 cells slots Q (F0 m (pc + 3) ls (.int (Int32.ofNat (t.getD x.toNatClampNeg 0)) :: List.map (mV (pad z sa b)) S9))) → W p l e R s m args below meth c H locs cells slots Q (F0 m pc ls (.int x :: .ref (pad z sa b a) :: List.map (mV (pad z sa b)) S9)) := by
              intro t ad av hE0 hch0 ea h3 h4 h5 h6 h7 kk
              rw [ea]
              exact W.callR (W.runV (C := "java/lang/String") (Ts := TG) (As := [.int x]) (n := 1) (nL := mN M) (rest := S9.map (mV (pad z sa b))) ⟨hx, hb, hml, hown, hT⟩ (pj_chA hF hE0 hch0 h6 h7) ⟨pj_cb hT okK_chA_c okK_iS hok ⟨by decide, by decide, by decide +kernel⟩ ⟨by show 3 + 1 ≤ _; omega, by show 8 + (2 + 11) + 64 ≤ _; omega⟩, hT _ okK_chA_i, hT _ okK_chA_v⟩ ⟨pcJ_blind, vk_recv (pcx_str hC hE0) Nat.zero_lt_one hS, hpre _⟩ rfl rfl hls rfl (by show 2 * 0 + _ ≤ 8; have := pcat8 (pad z sa b) h5; omega) hd ⟨hcs, hss⟩) (kk H locs hR hS)
            split at hf
            · rename_i hcond
              obtain ⟨h1, h2, h3, h4, h5, h6, h7⟩ := hcond
              cases hf
              obtain ⟨hi, ea⟩ := pstr_at (z := z) (sa := sa) (b := b) h1 h2
              exact go (hF.2.1 _ hi) (sOw_ch _ hi) ea h3 h4 h5 h6 h7 (fun H1 locs1 g1 g2 => k H1 locs1 rfl rfl g1 g2)
            · split at hf
              · rename_i fs hpt
                obtain ⟨-, rfl, ea⟩ := ptx_eq hR hpt
                split at hf
                · rename_i hcond
                  obtain ⟨h3, h4, h5, h6, h7⟩ := hcond
                  cases hf
                  have h8 : x.toNatClampNeg < tx.length := by unfold pTf at h7; rwa [List.length_map] at h7
                  refine go hF.2.2.1 hF.2.2.2.1 ea h3 h4 h5 h6 h8 (fun H1 locs1 g1 g2 => ?_)
                  have e9 : mV (pad z sa b) ((pTf tx).getD x.toNatClampNeg (.int 0)) = .int (Int32.ofNat (tx.getD x.toNatClampNeg 0)) := by
                    unfold pTf
                    rw [getD_map (fun c => Value.int (Int32.ofNat c)) tx h8 0]
                    rfl
                  have g := k H1 locs1 rfl rfl g1 g2
                  rw [List.map_cons, e9] at g
                  exact g
                · cases hf
              · cases hf
          · cases hf
      · cases hf
    · cases hf
  · rename_i idx
    split at hf
    · rename_i M9 n9 k9 hl
      have hok := okM_all _ hM _ (plk_mem hl)
      split at hf
      · rename_i hk
        subst hk
        simp only [pnat] at hf
        split at hf
        · rename_i a S9
          split at hf
          · rename_i hcond
            obtain ⟨h1, h2, h3⟩ := hcond
            cases hf
            exact W.objInit hx hb hown (hT _ hok) (hT _ okJ_oi) (hT _ okJ_ci) (rest := List.map (mV (pad z sa b)) S') rfl hmx.symm rfl hd (by omega) (by show 2 * 0 + _ + 12 ≤ _; have := pcat8 (pad z sa b) h3; omega) (k H locs rfl rfl hR hS)
          · cases hf
        · cases hf
      · cases hf
    · cases hf
  · rename_i idx
    split at hf
    · rename_i M9 n9 k9 hl
      have hok := okM_all _ hM _ (plk_mem hl)
      split at hf
      · rename_i hk
        rcases hk with rfl | rfl | rfl | rfl
        · simp only [pnat] at hf
          split at hf
          · rename_i y x S9
            split at hf
            · rename_i hcond
              obtain ⟨h1, h2, h3⟩ := hcond
              cases hf
              exact va_mmax hx hb hmx hown (hT _ hok) (hT _ okJ_mx) (hT _ okJ_im) (hT _ okJ_cx) (by omega) (by have := pcat8 (pad z sa b) h3; omega) hcs hss hd (k H locs rfl rfl hR hS)
            · cases hf
          · cases hf
        · simp only [pnat] at hf
          split at hf
          · rename_i y x S9
            split at hf
            · rename_i hcond
              obtain ⟨h1, h2, h3⟩ := hcond
              cases hf
              exact va_mmin hx hb hmx hown (hT _ hok) (hT _ okJ_mn) (hT _ okJ_im) (hT _ okJ_cn) (by omega) (by have := pcat8 (pad z sa b) h3; omega) hcs hss hd (by rw [pmin_eq]; exact k H locs rfl rfl hR hS)
            · cases hf
          · cases hf
        · simp only [pnat] at hf
          split at hf
          · rename_i n dp a sp a1 S9
            split at hf
            · rename_i hcond
              obtain ⟨h1, h2, h3⟩ := hcond
              have hnw : nativeFrameWords "java/lang/System" "arraycopy" 5 ≤ 7 := by decide
              have h8 := pcat8 (pad z sa b) h3
              split at hf
              · rename_i w9 hcp
                cases hf
                unfold pcpy at hcp
                split at hcp
                · cases hcp
                · rename_i hneg
                  have n1 : ¬ sp < 0 := fun q => hneg (Or.inl q)
                  have n2 : ¬ dp < 0 := fun q => hneg (Or.inr (Or.inl q))
                  have n3 : ¬ n < 0 := fun q => hneg (Or.inr (Or.inr q))
                  split at hcp
                  · rename_i m0 f hp0
                    split at hcp
                    · rename_i m1 g hp1
                      split at hcp
                      · rename_i hin
                        cases hcp
                        have ha := pai_eq hp1
                        exact va_copyi hx hb hmx hown (hT _ hok) (hT _ okJ_an) (hT _ okJ_ac) (hT _ okJ_is) hK hP hD hS _ _ 0 0 (pri_arr hR (pai_eq hp0) (by decide)) (pri_arr hR ha (by decide)) (ptys_at cy (by decide)) (ptys_at cy (by decide)) rfl n1 n2 n3 hin.1 hin.2 (fun _ _ => rfl) (by omega) (by omega) hd
                          fun H1 locs1 q1 _ q3 => k H1 locs1 rfl rfl (pri_set hR (pri_lt hR ha (fun q => by cases q) (fun q => by rw [q, hR.2.2.2.1.1] at ha; cases ha) (fun q => by rw [q, hR.2.2.2.1.2] at ha; cases ha)) q1 (fun t x q => by cases q; decide)) q3
                      · cases hcp
                    · cases hcp
                  · split at hcp
                    · rename_i m0 f hp0
                      split at hcp
                      · rename_i m1 g hp1
                        split at hcp
                        · rename_i hin
                          cases hcp
                          have ha := paL_eq hp1
                          exact va_copyl hx hb hmx hown (hT _ hok) (hT _ okJ_an) (hT _ okJ_ac) (hT _ okJ_is) hK hP hD hS _ _ 1 1 (pri_arr hR (paL_eq hp0) (by decide)) (pri_arr hR ha (by decide)) (ptys_at cy (by decide)) (ptys_at cy (by decide)) rfl n1 n2 n3 hin.1 hin.2 (fun _ _ => rfl) (by omega) (by omega) hd
                            fun H1 locs1 q1 _ q3 => k H1 locs1 rfl rfl (pri_set hR (pri_lt hR ha (fun q => by cases q) (fun q => by rw [q, hR.2.2.2.1.1] at ha; cases ha) (fun q => by rw [q, hR.2.2.2.1.2] at ha; cases ha)) q1 (fun t x q => by cases q; decide)) q3
                        · cases hcp
                      · cases hcp
                    · cases hcp
              · cases hf
            · cases hf
          · cases hf
        · simp only [pnat] at hf
          split at hf
          · rename_i x S9
            split at hf
            · rename_i hcond
              obtain ⟨h1, h2, h3⟩ := hcond
              cases hf
              exact va_mabs hx hb hmx hown (hT _ hok) (hT _ okJ_ab) (hT _ okJ_im) (hT _ okJ_ca) (by omega) (by have := pcat8 (pad z sa b) h3; omega) hcs hss hd (k H locs rfl rfl hR hS)
            · cases hf
          · cases hf
      · cases hf
    · cases hf
  · cases hf
set_option maxHeartbeats 4000000 in
theorem prt_snd {Qc : Array Value → State → Outcome → State → Prop} {mc ms : Nat} {free : Addr → Prop} {v : Option Value} {ad : Nat → Nat} (hx : p.tables.exec = Jvm.exec) (hb : c.code = mB M) (hr : meth.sig.returnType = mR M) (hlk : meth.locks = false) (hd : decode (mB M) pc = .ok (i, 1)) (hf : prt M i S = some v)
    (hq : ∀ t : State, t.heap = H → s.WarmedH t.vm → Qc args s (.returned (v.map (mV ad))) t) (hfree : ∀ q ∈ locs, free q.base) (hc : cells ≤ mc) (hs : slots ≤ ms) :
    W p l e R s m args below meth c H locs cells slots (MQ below Qc args s mc ms free) (F0 m pc ls (S.map (mV ad))) := by
  refine W.widen hc hs ?_
  unfold prt at hf
  split at hf
  · split at hf
    · rename_i v9
      split at hf
      · rename_i hm
        cases hf
        exact W.iret hx hb (hr.trans hm) hq hfree hd hlk
      · rename_i hm
        split at hf
        · rename_i h01
          cases hf
          refine W.zret hx hb (hr.trans hm) ?_ hq hfree hd hlk
          rcases h01 with rfl | rfl <;> rfl
        · cases hf
      · cases hf
    · cases hf
  · split at hf
    · split at hf
      · rename_i hm
        cases hf
        exact W.lret hx hb (hr.trans hm) hq hfree hd hlk
      · cases hf
    · cases hf
  · split at hf
    · split at hf
      · rename_i hm
        cases hf
        exact W.fret hx hb (hr.trans hm) hq hfree hd hlk
      · cases hf
    · cases hf
  · split at hf
    · split at hf
      · rename_i hm
        cases hf
        exact W.dret hx hb (hr.trans hm) hq hfree hd hlk
      · cases hf
    · cases hf
  · split at hf
    · split at hf
      · rename_i hm
        cases hf
        exact W.aret hx hb (hr.trans hm) (Or.inl ⟨_, rfl⟩) (Or.inr ⟨_, rfl⟩) hq hfree hd hlk
      · cases hf
    · cases hf
  · split at hf
    · split at hf
      · rename_i hm
        cases hf
        exact W.vret hx hb (hr.trans hm) hq hfree hd hlk
      · cases hf
    · cases hf
  · cases hf
end PNA
