/-! THE TEXT: a string is added -/
theorem sb_asc : ∀ c, c < 128 → sb_b c = Int32.ofNat c ∧ fits .byte (.int (Int32.ofNat c)) = true := by decide +kernel
theorem str_at {t : List Nat} (hc : pch t) {j : Nat} (hj : j < t.length) : (t.map (fun c => Int32.ofNat c)).getD j 0 = sb_b (t.getD j 0) := by
  rw [getD_map (fun c => Int32.ofNat c) t hj 0 0]
  exact ((sb_asc _ (hc.2 _ (getD_mem hj 0))).1).symm
theorem str_fit {t : List Nat} (hc : pch t) : sb_Fit (fun j => (t.map (fun c => Int32.ofNat c)).getD j 0) := fun j => by
  show fits .byte (.int ((t.map (fun c => Int32.ofNat c)).getD j 0)) = true
  by_cases hj : j < t.length
  · rw [getD_map (fun c => Int32.ofNat c) t hj 0 0]
    exact (sb_asc _ (hc.2 _ (getD_mem hj 0))).2
  · rw [List.getD_eq_getElem?_getD, List.getElem?_eq_none (by rw [List.length_map]; omega)]
    rfl
section JT8
variable {l : Launch} {D : va_G} {cB : ClassId} {s0 : State} {a0 : Array Value} {sb av dO dT ad as9 : Nat} {b0 : Int32} {n m9 : Nat} {f : Nat → Int32} {Wd : Heap → Prop} {t9 u9 : List Nat}
theorem jt_cod (hF : tFx D cB s0 a0) (hE : pSt u9 ad as9 (tA s0) s0 s0.heap) : tMet l yJ0_coder_7d493 cJ0_coder_7d493 1 (some .byte) 0 0 0 0 s0 [.ref ad] Wd (fun r H => r = some (.int 0) ∧ Wd H) := by
  refine Met.ofW (by decide) rfl fun p e s m args below meth c s₁ B hml hP => ?_
  obtain ⟨rfl, hW, hS0, hw⟩ := hP
  have hx := B.exec
  have hb := B.bytes
  have hT := pj_at hF.1 hW #[Value.ref ad]
  have hTS := TS_at hF.1 hW #[Value.ref ad]
  have hK := va_K.moved hW.alike hF.2.1
  have hZ := (va_Z.moved hW.alike hF.2.2).kept hS0.2.1
  have hown := findClass_of_methodNamed B.named
  have hS : va_S (tA s0) s.heap s.heap [] := va_S.rf
  have hA : ∀ q : Nat, s.heap.size ≤ q → tA s0 q := fun q h => Nat.le_trans hS0.1 h
  have hpre : ∀ {H1 : Heap} {locs1 : List Loc} {Wd : Heap → Prop}, va_S (tA s0) s.heap H1 locs1 → Wd H1 → ∀ (av : List Value) (U : State), U.heap = H1 → s.WarmedH U.vm → tP s0 av Wd av.toArray U := fun hS1 hw1 av U hU hWU => ⟨rfl, State.WarmedH.trans hW hWU, by rw [hU]; exact pas_nil (pas_trans hS0 hS1), by rw [hU]; exact hw1⟩
  have hl := lv_entry [.ref ad] (n := 1) (Nat.le_of_ble_eq_true rfl)
  rw [lg_entry_eq]
  generalize (lg_sl [.ref ad] ++ List.replicate (1 - (lg_sl [.ref ad]).length) Slot.unset).toArray = ls at hl ⊢
  have hl : lv_has ls 1 [(0, .ref ad)] := hl
  have hSS := (pSt.moved hW.alike hE).kept hS0.2.1
  refine va_gets hx hb hZ va_S.rf hown (hT _ okT_f_String_38) (fun _ h => h) (by decide +kernel : decode cJ0_coder_7d493 0 = .ok (.getstatic 38, 3)) ?_
  refine lv_if_eq hx hb (by decide +kernel : decode cJ0_coder_7d493 3 = .ok (.ifCond .eq 10, 3)) (tgt := 13) (by decide) (fun q => absurd q (by decide)) fun _ => ?_
  refine lv_aload_n hx hb (by decide +kernel : decode cJ0_coder_7d493 6 = .ok (.aload_n 0, 1)) rfl (lv_at hl 0 rfl) ?_
  refine vk_getf hx hb hSS.at.2.1 va_S.rf hown (hT _ okT_f_String_15) (fun _ h => h) (by decide +kernel : decode cJ0_coder_7d493 7 = .ok (.getfield 15, 3)) ?_
  refine lv_goto hx hb (by decide +kernel : decode cJ0_coder_7d493 10 = .ok (.goto 4, 3)) (tgt := 14) (by decide) ?_
  exact W.zret hx hb B.returns rfl (fun t ht _ => ⟨_, rfl, hS.F ht, rfl, by rw [ht]; exact hw⟩) (fun q h => by cases h) (by decide +kernel : decode cJ0_coder_7d493 14 = .ok (.ireturn, 1)) B.notSynchronized
theorem jt_sln (hF : tFx D cB s0 a0) (hE : pSt u9 ad as9 (tA s0) s0 s0.heap) : tMet l yJ0_length_8abf5 cJ0_length_8abf5 1 (some .int) 1 20 0 0 s0 [.ref ad] Wd (fun r H => r = some (.int (nI u9.length)) ∧ Wd H) := by
  refine Met.ofW (by decide) rfl fun p e s m args below meth c s₁ B hml hP => ?_
  obtain ⟨rfl, hW, hS0, hw⟩ := hP
  have hx := B.exec
  have hb := B.bytes
  have hT := pj_at hF.1 hW #[Value.ref ad]
  have hTS := TS_at hF.1 hW #[Value.ref ad]
  have hK := va_K.moved hW.alike hF.2.1
  have hZ := (va_Z.moved hW.alike hF.2.2).kept hS0.2.1
  have hown := findClass_of_methodNamed B.named
  have hS : va_S (tA s0) s.heap s.heap [] := va_S.rf
  have hA : ∀ q : Nat, s.heap.size ≤ q → tA s0 q := fun q h => Nat.le_trans hS0.1 h
  have hpre : ∀ {H1 : Heap} {locs1 : List Loc} {Wd : Heap → Prop}, va_S (tA s0) s.heap H1 locs1 → Wd H1 → ∀ (av : List Value) (U : State), U.heap = H1 → s.WarmedH U.vm → tP s0 av Wd av.toArray U := fun hS1 hw1 av U hU hWU => ⟨rfl, State.WarmedH.trans hW hWU, by rw [hU]; exact pas_nil (pas_trans hS0 hS1), by rw [hU]; exact hw1⟩
  have hl := lv_entry [.ref ad] (n := 1) (Nat.le_of_ble_eq_true rfl)
  rw [lg_entry_eq]
  generalize (lg_sl [.ref ad] ++ List.replicate (1 - (lg_sl [.ref ad]).length) Slot.unset).toArray = ls at hl ⊢
  have hl : lv_has ls 1 [(0, .ref ad)] := hl
  have hSS := (pSt.moved hW.alike hE).kept hS0.2.1
  refine lv_aload_n hx hb (by decide +kernel : decode cJ0_length_8abf5 0 = .ok (.aload_n 0, 1)) rfl (lv_at hl 0 rfl) ?_
  refine vk_getf hx hb hSS.at.2.2.1 va_S.rf hown (hT _ okT_f_String_9) (fun _ h => h) (by decide +kernel : decode cJ0_length_8abf5 1 = .ok (.getfield 9, 3)) ?_
  refine va_tlen hx hb hSS.at.2.2.2 va_S.rf (v := nI u9.length) rfl (by decide +kernel : decode cJ0_length_8abf5 4 = .ok (.arraylength, 1)) ?_
  refine lv_aload_n hx hb (by decide +kernel : decode cJ0_length_8abf5 5 = .ok (.aload_n 0, 1)) rfl (lv_at hl 0 rfl) ?_
  refine t_use (va_runV (C := "java/lang/String") (Ts := TG) (As := []) (n := 0) (nL := 1) (rest := [.int (nI u9.length)]) ⟨hx, hb, hml, hown, hT⟩ (jt_cod hF hE (Wd := Wd)) ⟨pj_cb hT okK_coder_c okK_iS okT_l_String_335 ⟨by decide, by decide, by decide +kernel⟩ ⟨by decide, by decide⟩, hT _ okK_coder_i, hT _ okK_coder_v⟩ ⟨tP_blind, vk_recv hSS Nat.zero_lt_one hS, hpre hS hw _⟩ rfl rfl hl.1 rfl (by show 2 * 0 + (1 + 0) ≤ 8; decide) (by decide +kernel : decode cJ0_length_8abf5 6 = .ok (.invokevirtual 335, 3)) ⟨by decide, by decide⟩) hS (fun r H1 locs1 hv hS => ?_)
  obtain ⟨rfl, hw⟩ := hv
  refine lv_ishr hx hb (by decide +kernel : decode cJ0_length_8abf5 9 = .ok (.ishr, 1)) ?_
  rw [sb_shr0]
  exact W.iret hx hb B.returns (fun t ht _ => ⟨_, rfl, hS.F ht, rfl, by rw [ht]; exact hw⟩) hS.2.2 (by decide +kernel : decode cJ0_length_8abf5 10 = .ok (.ireturn, 1)) B.notSynchronized
theorem jt_inf (hF : tFx D cB s0 a0) {x : Int32} (hE : pSt u9 ad as9 (tA s0) s0 s0.heap) : tMet l yJ5_inflateIfNeededFor_a7421 cJ5_inflateIfNeededFor_a7421 2 none 1 30 0 0 s0 [.ref sb, .ref ad] (SBc D cB s0 sb av b0 x m9 f) (fun r H => r = none ∧ SBc D cB s0 sb av b0 x m9 f H) := by
  refine Met.ofW (by decide) rfl fun p e s m args below meth c s₁ B hml hP => ?_
  obtain ⟨rfl, hW, hS0, hw⟩ := hP
  have hx := B.exec
  have hb := B.bytes
  have hT := pj_at hF.1 hW #[Value.ref sb, Value.ref ad]
  have hTS := TS_at hF.1 hW #[Value.ref sb, Value.ref ad]
  have hK := va_K.moved hW.alike hF.2.1
  have hZ := (va_Z.moved hW.alike hF.2.2).kept hS0.2.1
  have hown := findClass_of_methodNamed B.named
  have hS : va_S (tA s0) s.heap s.heap [] := va_S.rf
  have hA : ∀ q : Nat, s.heap.size ≤ q → tA s0 q := fun q h => Nat.le_trans hS0.1 h
  have hpre : ∀ {H1 : Heap} {locs1 : List Loc} {Wd : Heap → Prop}, va_S (tA s0) s.heap H1 locs1 → Wd H1 → ∀ (av : List Value) (U : State), U.heap = H1 → s.WarmedH U.vm → tP s0 av Wd av.toArray U := fun hS1 hw1 av U hU hWU => ⟨rfl, State.WarmedH.trans hW hWU, by rw [hU]; exact pas_nil (pas_trans hS0 hS1), by rw [hU]; exact hw1⟩
  have hl := lv_entry [.ref sb, .ref ad] (n := 2) (Nat.le_of_ble_eq_true rfl)
  rw [lg_entry_eq]
  generalize (lg_sl [.ref sb, .ref ad] ++ List.replicate (2 - (lg_sl [.ref sb, .ref ad]).length) Slot.unset).toArray = ls at hl ⊢
  have hl : lv_has ls 2 [(0, .ref sb), (1, .ref ad)] := hl
  have hSS := (pSt.moved hW.alike hE).kept hS0.2.1
  refine va_gets hx hb hZ va_S.rf hown (hT _ okT_f_AbstractStringBuilder_18) (fun _ h => h) (by decide +kernel : decode cJ5_inflateIfNeededFor_a7421 0 = .ok (.getstatic 18, 3)) ?_
  refine lv_if_eq hx hb (by decide +kernel : decode cJ5_inflateIfNeededFor_a7421 3 = .ok (.ifCond .eq 18, 3)) (tgt := 21) (by decide) (fun q => absurd q (by decide)) fun _ => ?_
  refine lv_aload_n hx hb (by decide +kernel : decode cJ5_inflateIfNeededFor_a7421 6 = .ok (.aload_n 0, 1)) rfl (lv_at hl 0 rfl) ?_
  refine va_get (D := D) (ci := 0) (v := .int 0) (C := RJ4) (T := TJ4) (N := 4) hx hb hT jt_ws4 hown hK hw.1 0 rfl rfl 1 (by decide) (hT _ okT_f_AbstractStringBuilder_22) (fun _ h => h) rfl (by decide +kernel : decode cJ5_inflateIfNeededFor_a7421 7 = .ok (.getfield 22, 3)) ?_
  refine lv_aload_n hx hb (by decide +kernel : decode cJ5_inflateIfNeededFor_a7421 10 = .ok (.aload_n 1, 1)) rfl (lv_at hl 1 rfl) ?_
  refine t_use (va_runV (C := "java/lang/String") (Ts := TG) (As := []) (n := 0) (nL := 2) (rest := [.int 0]) ⟨hx, hb, hml, hown, hT⟩ (jt_cod hF hE (Wd := SBc D cB s0 sb av b0 x m9 f)) ⟨pj_cb hT okK_coder_c okK_iS okT_l_AbstractStringBuilder_40 ⟨by decide, by decide, by decide +kernel⟩ ⟨by decide, by decide⟩, hT _ okK_coder_i, hT _ okK_coder_v⟩ ⟨tP_blind, vk_recv hSS Nat.zero_lt_one hS, hpre hS hw _⟩ rfl rfl hl.1 rfl (by show 2 * 0 + (1 + 0) ≤ 8; decide) (by decide +kernel : decode cJ5_inflateIfNeededFor_a7421 11 = .ok (.invokevirtual 40, 3)) ⟨by decide, by decide⟩) hS (fun r H1 locs1 hv hS => ?_)
  obtain ⟨rfl, hw⟩ := hv
  refine lv_icmp_eq hx hb (by decide +kernel : decode cJ5_inflateIfNeededFor_a7421 14 = .ok (.if_icmp .eq 7, 3)) (tgt := 21) (by decide) (fun _ => ?_) (fun q => absurd rfl q)
  exact W.vret hx hb B.returns (fun t ht _ => ⟨_, rfl, hS.F ht, rfl, by rw [ht]; exact hw⟩) hS.2.2 (by decide +kernel : decode cJ5_inflateIfNeededFor_a7421 21 = .ok (.return_, 1)) B.notSynchronized
/-- a string's letters are put at a place -/
def SBs (D : va_G) (cB : ClassId) (s0 : State) (sb av : Nat) (b0 n : Int32) (m : Nat) (f : Nat → Int32) (u : List Nat) (q : Nat) (H : Heap) : Prop := ∃ g, SBc D cB s0 sb av b0 n m g H ∧ sb_Fit g ∧ (∀ j, j < q → g j = f j) ∧ ∀ i, i < u.length → g (q + i) = sb_b (u.getD i 0)
theorem jt_gby (hF : tFx D cB s0 a0) {x : Int32} {q : Nat} (hE : pSt u9 ad as9 (tA s0) s0 s0.heap) (hc9 : pch u9) (hp : q + u9.length ≤ m9) (hm : m9 ≤ 1602) (hfit : sb_Fit f) : tMet l yJ0_getBytes_840e7 cJ0_getBytes_840e7 4 none 1 40 0 0 s0 [.ref ad, .ref av, .int (nI q), .int 0] (SBc D cB s0 sb av b0 x m9 f) (fun r H => r = none ∧ SBs D cB s0 sb av b0 x m9 f u9 q H) := by
  refine Met.ofW (by decide) rfl fun p e s m args below meth c s₁ B hml hP => ?_
  obtain ⟨rfl, hW, hS0, hw⟩ := hP
  have hx := B.exec
  have hb := B.bytes
  have hT := pj_at hF.1 hW #[Value.ref ad, Value.ref av, Value.int (nI q), Value.int 0]
  have hTS := TS_at hF.1 hW #[Value.ref ad, Value.ref av, Value.int (nI q), Value.int 0]
  have hK := va_K.moved hW.alike hF.2.1
  have hZ := (va_Z.moved hW.alike hF.2.2).kept hS0.2.1
  have hown := findClass_of_methodNamed B.named
  have hS : va_S (tA s0) s.heap s.heap [] := va_S.rf
  have hA : ∀ q : Nat, s.heap.size ≤ q → tA s0 q := fun q h => Nat.le_trans hS0.1 h
  have hpre : ∀ {H1 : Heap} {locs1 : List Loc} {Wd : Heap → Prop}, va_S (tA s0) s.heap H1 locs1 → Wd H1 → ∀ (av : List Value) (U : State), U.heap = H1 → s.WarmedH U.vm → tP s0 av Wd av.toArray U := fun hS1 hw1 av U hU hWU => ⟨rfl, State.WarmedH.trans hW hWU, by rw [hU]; exact pas_nil (pas_trans hS0 hS1), by rw [hU]; exact hw1⟩
  have hl := lv_entry [.ref ad, .ref av, .int (nI q), .int 0] (n := 4) (Nat.le_of_ble_eq_true rfl)
  rw [lg_entry_eq]
  generalize (lg_sl [.ref ad, .ref av, .int (nI q), .int 0] ++ List.replicate (4 - (lg_sl [.ref ad, .ref av, .int (nI q), .int 0]).length) Slot.unset).toArray = ls at hl ⊢
  have hl : lv_has ls 4 [(0, .ref ad), (1, .ref av), (2, .int (nI q)), (3, .int 0)] := hl
  have hSS := (pSt.moved hW.alike hE).kept hS0.2.1
  have hul := hc9.1
  refine lv_aload_n hx hb (by decide +kernel : decode cJ0_getBytes_840e7 0 = .ok (.aload_n 0, 1)) rfl (lv_at hl 0 rfl) ?_
  refine t_use (va_runV (C := "java/lang/String") (Ts := TG) (As := []) (n := 0) (nL := 4) (rest := []) ⟨hx, hb, hml, hown, hT⟩ (jt_cod hF hE (Wd := SBc D cB s0 sb av b0 x m9 f)) ⟨pj_cb hT okK_coder_c okK_iS okT_l_String_335 ⟨by decide, by decide, by decide +kernel⟩ ⟨by decide, by decide⟩, hT _ okK_coder_i, hT _ okK_coder_v⟩ ⟨tP_blind, vk_recv hSS Nat.zero_lt_one hS, hpre hS hw _⟩ rfl rfl hl.1 rfl (by show 2 * 0 + 0 ≤ 8; decide) (by decide +kernel : decode cJ0_getBytes_840e7 1 = .ok (.invokevirtual 335, 3)) ⟨by decide, by decide⟩) hS (fun r H1 locs1 hv hS => ?_)
  obtain ⟨rfl, hw⟩ := hv
  refine lv_iload_n hx hb (by decide +kernel : decode cJ0_getBytes_840e7 4 = .ok (.iload_n 3, 1)) rfl (lv_at hl 3 rfl) ?_
  refine lv_icmp_ne hx hb (by decide +kernel : decode cJ0_getBytes_840e7 5 = .ok (.if_icmp .ne 23, 3)) (tgt := 28) (by decide) (fun z => absurd rfl z) fun _ => ?_
  refine lv_aload_n hx hb (by decide +kernel : decode cJ0_getBytes_840e7 8 = .ok (.aload_n 0, 1)) rfl (lv_at hl 0 rfl) ?_
  refine vk_getf hx hb hSS.at.2.2.1 hS hown (hT _ okT_f_String_9) (fun _ h => h) (by decide +kernel : decode cJ0_getBytes_840e7 9 = .ok (.getfield 9, 3)) ?_
  refine lv_iconst (v := 0) hx hb (by decide +kernel : decode cJ0_getBytes_840e7 12 = .ok (.iconst 0, 1)) rfl ?_
  refine lv_aload_n hx hb (by decide +kernel : decode cJ0_getBytes_840e7 13 = .ok (.aload_n 1, 1)) rfl (lv_at hl 1 rfl) ?_
  refine lv_iload_n hx hb (by decide +kernel : decode cJ0_getBytes_840e7 14 = .ok (.iload_n 2, 1)) rfl (lv_at hl 2 rfl) ?_
  refine lv_iload_n hx hb (by decide +kernel : decode cJ0_getBytes_840e7 15 = .ok (.iload_n 3, 1)) rfl (lv_at hl 3 rfl) ?_
  refine lv_ishl hx hb (by decide +kernel : decode cJ0_getBytes_840e7 16 = .ok (.ishl, 1)) ?_
  rw [sb_shl0]
  refine lv_aload_n hx hb (by decide +kernel : decode cJ0_getBytes_840e7 17 = .ok (.aload_n 0, 1)) rfl (lv_at hl 0 rfl) ?_
  refine vk_getf hx hb hSS.at.2.2.1 hS hown (hT _ okT_f_String_9) (fun _ h => h) (by decide +kernel : decode cJ0_getBytes_840e7 18 = .ok (.getfield 9, 3)) ?_
  refine va_tlen hx hb hSS.at.2.2.2 hS (v := nI u9.length) rfl (by decide +kernel : decode cJ0_getBytes_840e7 21 = .ok (.arraylength, 1)) ?_
  refine vk_copyt (n0 := u9.length) (f := fun j => (u9.map (fun c => Int32.ofNat c)).getD j 0) hx hb (hml.trans hl.1.symm) hown (hT _ okT_l_String_212) (hT _ okJ_an) (hT _ okJ_ac) (hT _ okJ_is) hK hw.1 hw.2 hS hSS.at.2.2.2 1 0 rfl rfl (by decide) (nI_pos (by omega)) (nI_pos (by omega)) (by rw [sb_cl0, nI_clamp (by omega)]; omega) (by rw [nI_clamp (by omega), nI_clamp (by omega)]; omega) (fun i _ => str_fit hc9 _) (Nat.le_refl _) (by show 0 + _ ≤ 40; decide +kernel) (by decide +kernel : decode cJ0_getBytes_840e7 22 = .ok (.invokestatic 212, 3)) (fun H2 locs2 hP2 hD2 hS2 => ?_)
  rw [sb_cl0, nI_clamp (show q < 2 ^ 31 by omega), nI_clamp (show u9.length < 2 ^ 31 by omega)] at hP2 hD2
  refine lv_goto hx hb (by decide +kernel : decode cJ0_getBytes_840e7 25 = .ok (.goto 18, 3)) (tgt := 43) (by decide) ?_
  have hfin : SBs D cB s0 sb av b0 x m9 f u9 q H2 := by
    refine ⟨_, ⟨hP2, hD2⟩, sb_fitC (str_fit hc9) hfit, fun j hj => pk_cpy_out (by omega), fun i hi => ?_⟩
    rw [pk_cpy_in (by omega) (by omega), show 0 + (q + i - q) = i by omega]
    exact str_at hc9 hi
  exact W.vret hx hb B.returns (fun t ht _ => ⟨_, rfl, hS2.F ht, rfl, by rw [ht]; exact hfin⟩) hS2.2.2 (by decide +kernel : decode cJ0_getBytes_840e7 43 = .ok (.return_, 1)) B.notSynchronized
end JT8
