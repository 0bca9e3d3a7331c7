/-! THE TEXT: a string is added, on -/
section JT9
variable {l : Launch} {D : va_G} {cB : ClassId} {s0 : State} {a0 : Array Value} {sb av dO dT ad as9 : Nat} {b0 : Int32} {n m9 : Nat} {f : Nat → Int32} {Wd : Heap → Prop} {t9 u9 : List Nat}
theorem jt_pst (hF : tFx D cB s0 a0) {x : Int32} {q : Nat} (hE : pSt u9 ad as9 (tA s0) s0 s0.heap) (hc9 : pch u9) (hp : q + u9.length ≤ m9) (hm : m9 ≤ 1602) (hfit : sb_Fit f) : tMet l yJ5_putStringAt_47b60 cJ5_putStringAt_47b60 3 none 2 70 0 0 s0 [.ref sb, .int (nI q), .ref ad] (SBc D cB s0 sb av b0 x m9 f) (fun r H => r = none ∧ SBs D cB s0 sb av b0 x m9 f u9 q H) := by
  refine Met.ofW (by decide) rfl fun p e s m args below meth c s₁ B hml hP => ?_
  obtain ⟨rfl, hW, hS0, hw⟩ := hP
  have hx := B.exec
  have hb := B.bytes
  have hT := pj_at hF.1 hW #[Value.ref sb, Value.int (nI q), Value.ref ad]
  have hTS := TS_at hF.1 hW #[Value.ref sb, Value.int (nI q), Value.ref ad]
  have hK := va_K.moved hW.alike hF.2.1
  have hZ := (va_Z.moved hW.alike hF.2.2).kept hS0.2.1
  have hown := findClass_of_methodNamed B.named
  have hS : va_S (tA s0) s.heap s.heap [] := va_S.rf
  have hA : ∀ q : Nat, s.heap.size ≤ q → tA s0 q := fun q h => Nat.le_trans hS0.1 h
  have hpre : ∀ {H1 : Heap} {locs1 : List Loc} {Wd : Heap → Prop}, va_S (tA s0) s.heap H1 locs1 → Wd H1 → ∀ (av : List Value) (U : State), U.heap = H1 → s.WarmedH U.vm → tP s0 av Wd av.toArray U := fun hS1 hw1 av U hU hWU => ⟨rfl, State.WarmedH.trans hW hWU, by rw [hU]; exact pas_nil (pas_trans hS0 hS1), by rw [hU]; exact hw1⟩
  have hl := lv_entry [.ref sb, .int (nI q), .ref ad] (n := 3) (Nat.le_of_ble_eq_true rfl)
  rw [lg_entry_eq]
  generalize (lg_sl [.ref sb, .int (nI q), .ref ad] ++ List.replicate (3 - (lg_sl [.ref sb, .int (nI q), .ref ad]).length) Slot.unset).toArray = ls at hl ⊢
  have hl : lv_has ls 3 [(0, .ref sb), (1, .int (nI q)), (2, .ref ad)] := hl
  have hSS := (pSt.moved hW.alike hE).kept hS0.2.1
  refine lv_aload_n hx hb (by decide +kernel : decode cJ5_putStringAt_47b60 0 = .ok (.aload_n 0, 1)) rfl (lv_at hl 0 rfl) ?_
  refine lv_aload_n hx hb (by decide +kernel : decode cJ5_putStringAt_47b60 1 = .ok (.aload_n 2, 1)) rfl (lv_at hl 2 rfl) ?_
  refine t_use (va_runV (C := RJ4) (Ts := TG) (As := [.ref ad]) (n := 1) (nL := 3) (rest := []) ⟨hx, hb, hml, hown, hT⟩ (jt_inf hF (x := x) (av := av) (sb := sb) (b0 := b0) (m9 := m9) (f := f) hE) ⟨pj_cb hT okT_J5_inflateIfNeededFor_a7421_c okT_i_java_lang_AbstractStringBuilder okT_l_AbstractStringBuilder_397 ⟨by decide, by decide, by decide +kernel⟩ ⟨by decide, by decide⟩, hT _ okT_J5_inflateIfNeededFor_a7421_i, hTS _ (tsm 3 rfl)⟩ ⟨tP_blind, va_recv hK hw.1 (ci := 0) (q0 := 0) rfl rfl, hpre hS hw _⟩ rfl rfl hl.1 rfl (by show 2 * 0 + 0 ≤ 8; decide) (by decide +kernel : decode cJ5_putStringAt_47b60 2 = .ok (.invokevirtual 397, 3)) ⟨by decide, by decide⟩) hS (fun r H1 locs1 hv hS => ?_)
  obtain ⟨rfl, hw⟩ := hv
  refine lv_aload_n hx hb (by decide +kernel : decode cJ5_putStringAt_47b60 5 = .ok (.aload_n 2, 1)) rfl (lv_at hl 2 rfl) ?_
  refine lv_aload_n hx hb (by decide +kernel : decode cJ5_putStringAt_47b60 6 = .ok (.aload_n 0, 1)) rfl (lv_at hl 0 rfl) ?_
  refine va_get (D := D) (ci := 0) (v := .ref av) (C := RJ4) (T := TJ4) (N := 4) hx hb hT jt_ws4 hown hK hw.1 0 rfl rfl 0 (by decide) (hT _ okT_f_AbstractStringBuilder_15) (fun _ h => h) rfl (by decide +kernel : decode cJ5_putStringAt_47b60 7 = .ok (.getfield 15, 3)) ?_
  refine lv_iload_n hx hb (by decide +kernel : decode cJ5_putStringAt_47b60 10 = .ok (.iload_n 1, 1)) rfl (lv_at hl 1 rfl) ?_
  refine lv_aload_n hx hb (by decide +kernel : decode cJ5_putStringAt_47b60 11 = .ok (.aload_n 0, 1)) rfl (lv_at hl 0 rfl) ?_
  refine va_get (D := D) (ci := 0) (v := .int 0) (C := RJ4) (T := TJ4) (N := 4) hx hb hT jt_ws4 hown hK hw.1 0 rfl rfl 1 (by decide) (hT _ okT_f_AbstractStringBuilder_22) (fun _ h => h) rfl (by decide +kernel : decode cJ5_putStringAt_47b60 12 = .ok (.getfield 22, 3)) ?_
  refine t_use (va_runV (C := "java/lang/String") (Ts := TG) (As := [.ref av, .int (nI q), .int 0]) (n := 3) (nL := 3) (rest := []) ⟨hx, hb, hml, hown, hT⟩ (jt_gby hF (x := x) (sb := sb) (b0 := b0) hE hc9 hp hm hfit) ⟨pj_cb hT okT_J0_getBytes_840e7_c okK_iS okT_l_AbstractStringBuilder_399 ⟨by decide, by decide, by decide +kernel⟩ ⟨by decide, by decide⟩, hT _ okT_J0_getBytes_840e7_i, hT _ okT_v_String_J0_getBytes_840e7⟩ ⟨tP_blind, vk_recv hSS Nat.zero_lt_one hS, hpre hS hw _⟩ rfl rfl hl.1 rfl (by show 2 * 0 + 0 ≤ 8; decide) (by decide +kernel : decode cJ5_putStringAt_47b60 15 = .ok (.invokevirtual 399, 3)) ⟨by decide, by decide⟩) hS (fun r H1 locs1 hv hS => ?_)
  obtain ⟨rfl, hw⟩ := hv
  exact W.vret hx hb B.returns (fun t ht _ => ⟨_, rfl, hS.F ht, rfl, by rw [ht]; exact hw⟩) hS.2.2 (by decide +kernel : decode cJ5_putStringAt_47b60 18 = .ok (.return_, 1)) B.notSynchronized
theorem jt_apS (hF : tFx D cB s0 a0) (hE : pSt u9 ad as9 (tA s0) s0 s0.heap) (hc9 : pch u9) (h1 : t9.length + u9.length ≤ 800) (h2 : m9 ≤ 1602) : tMet l yJ5_append_cf1ce cJ5_append_cf1ce 3 (some (.object "java/lang/AbstractStringBuilder")) 4 140 1 1602 s0 [.ref sb, .ref ad] (SBt D cB s0 sb b0 t9 m9) (fun r H => r = some (.ref sb) ∧ SBt D cB s0 sb b0 (t9 ++ u9) (capJ (t9.length + u9.length) m9) H) := by
  refine Met.ofW (by decide) rfl fun p e s m args below meth c s₁ B hml hP => ?_
  obtain ⟨rfl, hW, hS0, hw⟩ := hP
  have hx := B.exec
  have hb := B.bytes
  have hT := pj_at hF.1 hW #[Value.ref sb, Value.ref ad]
  have hTS := TS_at hF.1 hW #[Value.ref sb, Value.ref ad]
  have hK := va_K.moved hW.alike hF.2.1
  have hZ := (va_Z.moved hW.alike hF.2.2).kept hS0.2.1
  have hown := findClass_of_methodNamed B.named
  have hS : va_S (tA s0) s.heap s.heap [] := va_S.rf
  have hA : ∀ q : Nat, s.heap.size ≤ q → tA s0 q := fun q h => Nat.le_trans hS0.1 h
  have hpre : ∀ {H1 : Heap} {locs1 : List Loc} {Wd : Heap → Prop}, va_S (tA s0) s.heap H1 locs1 → Wd H1 → ∀ (av : List Value) (U : State), U.heap = H1 → s.WarmedH U.vm → tP s0 av Wd av.toArray U := fun hS1 hw1 av U hU hWU => ⟨rfl, State.WarmedH.trans hW hWU, by rw [hU]; exact pas_nil (pas_trans hS0 hS1), by rw [hU]; exact hw1⟩
  have hl := lv_entry [.ref sb, .ref ad] (n := 3) (Nat.le_of_ble_eq_true rfl)
  rw [lg_entry_eq]
  generalize (lg_sl [.ref sb, .ref ad] ++ List.replicate (3 - (lg_sl [.ref sb, .ref ad]).length) Slot.unset).toArray = ls at hl ⊢
  have hl : lv_has ls 3 [(0, .ref sb), (1, .ref ad)] := hl
  have hSS := (pSt.moved hW.alike hE).kept hS0.2.1
  obtain ⟨av, f, hw, hfit, hle, hf⟩ := hw
  have hge := capJ_ge (t9.length + u9.length) m9
  have hcl := capJ_le (need := t9.length + u9.length) (m := m9) (by omega) h2
  refine lv_aload_n hx hb (by decide +kernel : decode cJ5_append_cf1ce 0 = .ok (.aload_n 1, 1)) rfl (lv_at hl 1 rfl) ?_
  refine lv_ifnonnull hx hb (by decide +kernel : decode cJ5_append_cf1ce 1 = .ok (.ifnonnull 8, 3)) (tgt := 9) (by decide) ?_
  refine lv_aload_n hx hb (by decide +kernel : decode cJ5_append_cf1ce 9 = .ok (.aload_n 1, 1)) rfl (lv_at hl 1 rfl) ?_
  refine t_use (va_runV (C := "java/lang/String") (Ts := TG) (As := []) (n := 0) (nL := 3) (rest := []) ⟨hx, hb, hml, hown, hT⟩ (jt_sln hF hE (Wd := SBc D cB s0 sb av b0 (nI t9.length) m9 f)) ⟨pj_cb hT okK_len_c okK_iS okT_l_AbstractStringBuilder_32 ⟨by decide, by decide, by decide +kernel⟩ ⟨by decide, by decide⟩, hT _ okK_len_i, hT _ okK_len_v⟩ ⟨tP_blind, vk_recv hSS Nat.zero_lt_one hS, hpre hS hw _⟩ rfl rfl hl.1 rfl (by show 2 * 0 + 0 ≤ 8; decide) (by decide +kernel : decode cJ5_append_cf1ce 10 = .ok (.invokevirtual 32, 3)) ⟨by decide, by decide⟩) hS (fun r H1 locs1 hv hS => ?_)
  obtain ⟨rfl, hw⟩ := hv
  refine lv_istore_n hx hb (by decide +kernel : decode cJ5_append_cf1ce 13 = .ok (.istore_n 2, 1)) rfl hl (by decide) rfl (fun ls hl => ?_)
  refine lv_aload_n hx hb (by decide +kernel : decode cJ5_append_cf1ce 14 = .ok (.aload_n 0, 1)) rfl (lv_at hl 1 rfl) ?_
  refine lv_aload_n hx hb (by decide +kernel : decode cJ5_append_cf1ce 15 = .ok (.aload_n 0, 1)) rfl (lv_at hl 1 rfl) ?_
  refine va_get (D := D) (ci := 0) (v := .int (nI t9.length)) (C := RJ4) (T := TJ4) (N := 4) hx hb hT jt_ws4 hown hK hw.1 0 rfl rfl 3 (by decide) (hT _ okT_f_AbstractStringBuilder_79) (fun _ h => h) rfl (by decide +kernel : decode cJ5_append_cf1ce 16 = .ok (.getfield 79, 3)) ?_
  refine lv_iload_n hx hb (by decide +kernel : decode cJ5_append_cf1ce 19 = .ok (.iload_n 2, 1)) rfl (lv_at hl 0 rfl) ?_
  refine lv_iadd hx hb (by decide +kernel : decode cJ5_append_cf1ce 20 = .ok (.iadd, 1)) ?_
  rw [nI_add]
  refine t_use (va_runV (C := RJ4) (Ts := TG) (As := [.int (nI (t9.length + u9.length))]) (n := 1) (nL := 3) (rest := []) ⟨hx, hb, hml, hown, hT⟩ (jt_ens hF (x := nI t9.length) (need := t9.length + u9.length) (by omega) h2 hfit) ⟨pj_cb hT okT_J5_ensureCapacityInternal_d00df_c okT_i_java_lang_AbstractStringBuilder okT_l_AbstractStringBuilder_100 ⟨by decide, by decide, by decide +kernel⟩ ⟨by decide, by decide⟩, hT _ okT_J5_ensureCapacityInternal_d00df_i, hTS _ (tsm 0 rfl)⟩ ⟨tP_blind, va_recv hK hw.1 (ci := 0) (q0 := 0) rfl rfl, hpre hS hw _⟩ rfl rfl hl.1 rfl (by show 2 * 0 + 0 ≤ 8; decide) (by decide +kernel : decode cJ5_append_cf1ce 21 = .ok (.invokevirtual 100, 3)) ⟨by decide, by decide⟩) hS (fun r H1 locs1 hv hS => ?_)
  obtain ⟨rfl, av', g, hw, hfg, hg⟩ := hv
  generalize hk : capJ (t9.length + u9.length) m9 = k at *
  refine lv_aload_n hx hb (by decide +kernel : decode cJ5_append_cf1ce 24 = .ok (.aload_n 0, 1)) rfl (lv_at hl 1 rfl) ?_
  refine lv_aload_n hx hb (by decide +kernel : decode cJ5_append_cf1ce 25 = .ok (.aload_n 0, 1)) rfl (lv_at hl 1 rfl) ?_
  refine va_get (D := D) (ci := 0) (v := .int (nI t9.length)) (C := RJ4) (T := TJ4) (N := 4) hx hb hT jt_ws4 hown hK hw.1 0 rfl rfl 3 (by decide) (hT _ okT_f_AbstractStringBuilder_79) (fun _ h => h) rfl (by decide +kernel : decode cJ5_append_cf1ce 26 = .ok (.getfield 79, 3)) ?_
  refine lv_aload_n hx hb (by decide +kernel : decode cJ5_append_cf1ce 29 = .ok (.aload_n 1, 1)) rfl (lv_at hl 2 rfl) ?_
  refine t_use (va_runV (C := RJ4) (Ts := TG) (As := [.int (nI t9.length), .ref ad]) (n := 2) (nL := 3) (rest := []) ⟨hx, hb, hml, hown, hT⟩ (jt_pst hF (x := nI t9.length) (q := t9.length) (sb := sb) (b0 := b0) hE hc9 hge.1 hcl hfg) ⟨pj_cb hT okT_J5_putStringAt_47b60_c okT_i_java_lang_AbstractStringBuilder okT_l_AbstractStringBuilder_208 ⟨by decide, by decide, by decide +kernel⟩ ⟨by decide, by decide⟩, hT _ okT_J5_putStringAt_47b60_i, hTS _ (tsm 2 rfl)⟩ ⟨tP_blind, va_recv hK hw.1 (ci := 0) (q0 := 0) rfl rfl, hpre hS hw _⟩ rfl rfl hl.1 rfl (by show 2 * 0 + 0 ≤ 8; decide) (by decide +kernel : decode cJ5_append_cf1ce 30 = .ok (.invokevirtual 208, 3)) ⟨by decide, by decide⟩) hS (fun r H1 locs1 hv hS => ?_)
  obtain ⟨rfl, g2, hw, hfg2, hk1, hk2⟩ := hv
  refine lv_aload_n hx hb (by decide +kernel : decode cJ5_append_cf1ce 33 = .ok (.aload_n 0, 1)) rfl (lv_at hl 1 rfl) ?_
  refine lv_dup hx hb (by decide +kernel : decode cJ5_append_cf1ce 34 = .ok (.dup, 1)) rfl ?_
  refine va_get (D := D) (ci := 0) (v := .int (nI t9.length)) (C := RJ4) (T := TJ4) (N := 4) hx hb hT jt_ws4 hown hK hw.1 0 rfl rfl 3 (by decide) (hT _ okT_f_AbstractStringBuilder_79) (fun _ h => h) rfl (by decide +kernel : decode cJ5_append_cf1ce 35 = .ok (.getfield 79, 3)) ?_
  refine lv_iload_n hx hb (by decide +kernel : decode cJ5_append_cf1ce 38 = .ok (.iload_n 2, 1)) rfl (lv_at hl 0 rfl) ?_
  refine lv_iadd hx hb (by decide +kernel : decode cJ5_append_cf1ce 39 = .ok (.iadd, 1)) ?_
  rw [nI_add]
  refine va_put (D := D) (ci := 0) (v := .int (nI (t9.length + u9.length))) (ty := .int) (C := RJ4) (T := TJ4) (N := 4) hx hb hT jt_ws4 tyJ4 tyJ4_ok nmJ4 hown hK hw.1 hw.2 hS 0 rfl rfl 3 (by decide) (hT _ okT_f_AbstractStringBuilder_79) (fun _ h => h) rfl (by decide +kernel) rfl rfl (by show 3 < 4; decide) (by decide +kernel : decode cJ5_append_cf1ce 40 = .ok (.putfield 79, 3)) (fun H2 locs2 hP2 hD2 hS2 => ?_)
  refine lv_aload_n hx hb (by decide +kernel : decode cJ5_append_cf1ce 43 = .ok (.aload_n 0, 1)) rfl (lv_at hl 1 rfl) ?_
  refine W.widen (k := 1) (n := 1602) (by decide) (by decide) ?_
  have hfin : SBt D cB s0 sb b0 (t9 ++ u9) k H2 := by
    have e : (t9 ++ u9).length = t9.length + u9.length := List.length_append
    refine ⟨av', g2, ⟨?_, ?_⟩, hfg2, ?_, fun j hj => ?_⟩
    · rw [e]
      exact hP2
    · rw [e]
      exact hD2
    · rw [e]
      exact hge.1
    · rw [e] at hj
      rw [getD_app]
      by_cases y : j < t9.length
      · rw [if_pos y, hk1 j y, hg j (by omega), hf j y]
      · rw [if_neg y]
        have := hk2 (j - t9.length) (by omega)
        rwa [show t9.length + (j - t9.length) = j by omega] at this
  exact W.aret hx hb B.returns (Or.inl ⟨_, rfl⟩) (Or.inr ⟨_, rfl⟩) (fun t ht _ => ⟨_, rfl, hS2.F ht, rfl, by rw [ht]; exact hfin⟩) hS2.2.2 (by decide +kernel : decode cJ5_append_cf1ce 44 = .ok (.areturn, 1)) B.notSynchronized
theorem jt_sbS (hF : tFx D cB s0 a0) (hE : pSt u9 ad as9 (tA s0) s0 s0.heap) (hc9 : pch u9) (h1 : t9.length + u9.length ≤ 800) (h2 : m9 ≤ 1602) : tMet l yJ4_append_15ec4 cJ4_append_15ec4 2 (some (.object "java/lang/StringBuilder")) 5 170 1 1602 s0 [.ref sb, .ref ad] (SBt D cB s0 sb b0 t9 m9) (fun r H => r = some (.ref sb) ∧ SBt D cB s0 sb b0 (t9 ++ u9) (capJ (t9.length + u9.length) m9) H) := by
  refine Met.ofW (by decide) rfl fun p e s m args below meth c s₁ B hml hP => ?_
  obtain ⟨rfl, hW, hS0, hw⟩ := hP
  have hx := B.exec
  have hb := B.bytes
  have hT := pj_at hF.1 hW #[Value.ref sb, Value.ref ad]
  have hTS := TS_at hF.1 hW #[Value.ref sb, Value.ref ad]
  have hK := va_K.moved hW.alike hF.2.1
  have hZ := (va_Z.moved hW.alike hF.2.2).kept hS0.2.1
  have hown := findClass_of_methodNamed B.named
  have hS : va_S (tA s0) s.heap s.heap [] := va_S.rf
  have hA : ∀ q : Nat, s.heap.size ≤ q → tA s0 q := fun q h => Nat.le_trans hS0.1 h
  have hpre : ∀ {H1 : Heap} {locs1 : List Loc} {Wd : Heap → Prop}, va_S (tA s0) s.heap H1 locs1 → Wd H1 → ∀ (av : List Value) (U : State), U.heap = H1 → s.WarmedH U.vm → tP s0 av Wd av.toArray U := fun hS1 hw1 av U hU hWU => ⟨rfl, State.WarmedH.trans hW hWU, by rw [hU]; exact pas_nil (pas_trans hS0 hS1), by rw [hU]; exact hw1⟩
  have hl := lv_entry [.ref sb, .ref ad] (n := 2) (Nat.le_of_ble_eq_true rfl)
  rw [lg_entry_eq]
  generalize (lg_sl [.ref sb, .ref ad] ++ List.replicate (2 - (lg_sl [.ref sb, .ref ad]).length) Slot.unset).toArray = ls at hl ⊢
  have hl : lv_has ls 2 [(0, .ref sb), (1, .ref ad)] := hl
  have hw9 := hw
  obtain ⟨av, f, hwc, hfit, hle, hf⟩ := hw
  refine lv_aload_n hx hb (by decide +kernel : decode cJ4_append_15ec4 0 = .ok (.aload_n 0, 1)) rfl (lv_at hl 0 rfl) ?_
  refine lv_aload_n hx hb (by decide +kernel : decode cJ4_append_15ec4 1 = .ok (.aload_n 1, 1)) rfl (lv_at hl 1 rfl) ?_
  refine t_use (va_runSU (C := RJ4) (Ts := TG) (As := [.ref ad]) (n := 1) (nL := 2) (rest := []) (hK.1 0 _ rfl).2 ⟨hx, hb, hml, hown, hT⟩ (jt_apS hF hE hc9 h1 h2) (va_cwSU (Ts := TG) (ws' := []) 1 hT (suw okT_l_StringBuilder_29 okT_m_J5_append_cf1ce okT_u_StringBuilder okT_J5_append_cf1ce_i okT_i_java_lang_AbstractStringBuilder okT_J5_append_cf1ce_c) rfl rfl rfl ⟨by decide, by decide +kernel⟩ ⟨by decide, by decide⟩) ⟨tP_blind, va_recv hK hwc.1 (ci := 0) (q0 := 0) rfl rfl, hpre hS hw9 _⟩ rfl rfl hl.1 rfl (by show 2 * 0 + 0 ≤ 8; decide) (by decide +kernel : decode cJ4_append_15ec4 2 = .ok (.invokespecial 29, 3)) ⟨by decide, by decide⟩) hS (fun r H1 locs1 hv hS => ?_)
  obtain ⟨rfl, hw⟩ := hv
  refine lv_pop hx hb (by decide +kernel : decode cJ4_append_15ec4 5 = .ok (.pop, 1)) rfl ?_
  refine lv_aload_n hx hb (by decide +kernel : decode cJ4_append_15ec4 6 = .ok (.aload_n 0, 1)) rfl (lv_at hl 0 rfl) ?_
  refine W.widen (k := 1) (n := 1602) (by decide) (by decide) ?_
  exact W.aret hx hb B.returns (Or.inl ⟨_, rfl⟩) (Or.inr ⟨_, rfl⟩) (fun t ht _ => ⟨_, rfl, hS.F ht, rfl, by rw [ht]; exact hw⟩) hS.2.2 (by decide +kernel : decode cJ4_append_15ec4 7 = .ok (.areturn, 1)) B.notSynchronized
end JT9
