/-! THE TEXT: a number is added -/
section JT7
variable {l : Launch} {D : va_G} {cB : ClassId} {s0 : State} {a0 : Array Value} {sb av dO dT : Nat} {b0 : Int32} {n m9 : Nat} {f : Nat → Int32} {Wd : Heap → Prop} {t9 : List Nat}
theorem getD_app (a b : List Nat) (j : Nat) : (a ++ b).getD j 0 = if j < a.length then a.getD j 0 else b.getD (j - a.length) 0 := by
  by_cases h : j < a.length
  · rw [if_pos h, List.getD_eq_getElem?_getD, List.getD_eq_getElem?_getD, List.getElem?_append_left h]
  · rw [if_neg h, List.getD_eq_getElem?_getD, List.getD_eq_getElem?_getD, List.getElem?_append_right (by omega)]
theorem jt_apI (hF : tFx D cB s0 a0) (hG : tDg dO dT s0) {v : Nat} (hv9 : v < 100) (h1 : t9.length < 700) (h2 : m9 ≤ 1602) : tMet l yJ5_append_c97b9 cJ5_append_c97b9 4 (some (.object "java/lang/AbstractStringBuilder")) 4 140 1 1602 s0 [.ref sb, .int (nI v)] (SBt D cB s0 sb b0 t9 m9) (fun r H => r = some (.ref sb) ∧ SBt D cB s0 sb b0 (t9 ++ nu v) (capJ (t9.length + (nu v).length) m9) H) := by
  refine Met.ofW (by decide) rfl fun p e s m args below meth c s₁ B hml hP => ?_
  obtain ⟨rfl, hW, hS0, hw⟩ := hP
  have hx := B.exec
  have hb := B.bytes
  have hT := pj_at hF.1 hW #[Value.ref sb, Value.int (nI v)]
  have hTS := TS_at hF.1 hW #[Value.ref sb, Value.int (nI v)]
  have hK := va_K.moved hW.alike hF.2.1
  have hZ := (va_Z.moved hW.alike hF.2.2).kept hS0.2.1
  have hown := findClass_of_methodNamed B.named
  have hS : va_S (tA s0) s.heap s.heap [] := va_S.rf
  have hA : ∀ q : Nat, s.heap.size ≤ q → tA s0 q := fun q h => Nat.le_trans hS0.1 h
  have hpre : ∀ {H1 : Heap} {locs1 : List Loc} {Wd : Heap → Prop}, va_S (tA s0) s.heap H1 locs1 → Wd H1 → ∀ (av : List Value) (U : State), U.heap = H1 → s.WarmedH U.vm → tP s0 av Wd av.toArray U := fun hS1 hw1 av U hU hWU => ⟨rfl, State.WarmedH.trans hW hWU, by rw [hU]; exact pas_nil (pas_trans hS0 hS1), by rw [hU]; exact hw1⟩
  have hl := lv_entry [.ref sb, .int (nI v)] (n := 4) (Nat.le_of_ble_eq_true rfl)
  rw [lg_entry_eq]
  generalize (lg_sl [.ref sb, .int (nI v)] ++ List.replicate (4 - (lg_sl [.ref sb, .int (nI v)]).length) Slot.unset).toArray = ls at hl ⊢
  have hl : lv_has ls 4 [(0, .ref sb), (1, .int (nI v))] := hl
  have hw9 := hw
  obtain ⟨av, f, hw, hfit, hle, hf⟩ := hw
  have hnl := nu_len v
  have hge := capJ_ge (t9.length + (nu v).length) m9
  have hcl := capJ_le (need := t9.length + (nu v).length) (m := m9) (by omega) h2
  refine lv_aload_n hx hb (by decide +kernel : decode cJ5_append_c97b9 0 = .ok (.aload_n 0, 1)) rfl (lv_at hl 0 rfl) ?_
  refine va_get (D := D) (ci := 0) (v := .int (nI t9.length)) (C := RJ4) (T := TJ4) (N := 4) hx hb hT jt_ws4 hown hK hw.1 0 rfl rfl 3 (by decide) (hT _ okT_f_AbstractStringBuilder_79) (fun _ h => h) rfl (by decide +kernel : decode cJ5_append_c97b9 1 = .ok (.getfield 79, 3)) ?_
  refine lv_istore_n hx hb (by decide +kernel : decode cJ5_append_c97b9 4 = .ok (.istore_n 2, 1)) rfl hl (by decide) rfl (fun ls hl => ?_)
  refine lv_iload_n hx hb (by decide +kernel : decode cJ5_append_c97b9 5 = .ok (.iload_n 2, 1)) rfl (lv_at hl 0 rfl) ?_
  refine lv_iload_n hx hb (by decide +kernel : decode cJ5_append_c97b9 6 = .ok (.iload_n 1, 1)) rfl (lv_at hl 2 rfl) ?_
  refine t_use (va_runS (Ts := TG) (As := [.int (nI v)]) (n := 1) (nL := 4) (rest := [.int (nI t9.length)]) ⟨hx, hb, hml, hown, hT⟩ (jt_ssz hF (Wd := SBc D cB s0 sb av b0 (nI t9.length) m9 f) hv9) ⟨pj_cb hT okT_J6_stringSize_0f7a4_c okT_i_java_lang_Integer okT_l_AbstractStringBuilder_245 ⟨by decide, by decide, by decide +kernel⟩ ⟨by decide, by decide⟩, hT _ okT_J6_stringSize_0f7a4_s⟩ ⟨tP_blind, hpre hS hw _⟩ rfl rfl hl.1 rfl (by show 2 * 0 + (1 + 0) ≤ 8; decide) (by decide +kernel : decode cJ5_append_c97b9 7 = .ok (.invokestatic 245, 3)) ⟨by decide, by decide⟩) hS (fun r H1 locs1 hv hS => ?_)
  obtain ⟨rfl, hw⟩ := hv
  refine lv_iadd hx hb (by decide +kernel : decode cJ5_append_c97b9 10 = .ok (.iadd, 1)) ?_
  rw [nI_add]
  refine lv_istore_n hx hb (by decide +kernel : decode cJ5_append_c97b9 11 = .ok (.istore_n 3, 1)) rfl hl (by decide) rfl (fun ls hl => ?_)
  refine lv_aload_n hx hb (by decide +kernel : decode cJ5_append_c97b9 12 = .ok (.aload_n 0, 1)) rfl (lv_at hl 2 rfl) ?_
  refine lv_iload_n hx hb (by decide +kernel : decode cJ5_append_c97b9 13 = .ok (.iload_n 3, 1)) rfl (lv_at hl 0 rfl) ?_
  refine t_use (va_runV (C := RJ4) (Ts := TG) (As := [.int (nI (t9.length + (nu v).length))]) (n := 1) (nL := 4) (rest := []) ⟨hx, hb, hml, hown, hT⟩ (jt_ens hF (x := nI t9.length) (need := t9.length + (nu v).length) (by omega) h2 hfit) ⟨pj_cb hT okT_J5_ensureCapacityInternal_d00df_c okT_i_java_lang_AbstractStringBuilder okT_l_AbstractStringBuilder_100 ⟨by decide, by decide, by decide +kernel⟩ ⟨by decide, by decide⟩, hT _ okT_J5_ensureCapacityInternal_d00df_i, hTS _ (tsm 0 rfl)⟩ ⟨tP_blind, va_recv hK hw.1 (ci := 0) (q0 := 0) rfl rfl, hpre hS hw _⟩ rfl rfl hl.1 rfl (by show 2 * 0 + 0 ≤ 8; decide) (by decide +kernel : decode cJ5_append_c97b9 14 = .ok (.invokevirtual 100, 3)) ⟨by decide, by decide⟩) hS (fun r H1 locs1 hv hS => ?_)
  obtain ⟨rfl, av', g, hw, hfg, hg⟩ := hv
  generalize hk : capJ (t9.length + (nu v).length) m9 = k at *
  refine lv_aload_n hx hb (by decide +kernel : decode cJ5_append_c97b9 17 = .ok (.aload_n 0, 1)) rfl (lv_at hl 2 rfl) ?_
  refine t_use (va_runV (C := RJ4) (Ts := TG) (As := []) (n := 0) (nL := 4) (rest := []) ⟨hx, hb, hml, hown, hT⟩ (jt_lat hF (sb := sb) (av := av') (b0 := b0) (n := nI t9.length) (m9 := k) (f := g)) ⟨pj_cb hT okT_J5_isLatin1_aae02_c okT_i_java_lang_AbstractStringBuilder okT_l_AbstractStringBuilder_83 ⟨by decide, by decide, by decide +kernel⟩ ⟨by decide, by decide⟩, hT _ okT_J5_isLatin1_aae02_i, hT _ okT_v_StringBuilder_J5_isLatin1_aae02⟩ ⟨tP_blind, va_recv hK hw.1 (ci := 0) (q0 := 0) rfl rfl, hpre hS hw _⟩ rfl rfl hl.1 rfl (by show 2 * 0 + 0 ≤ 8; decide) (by decide +kernel : decode cJ5_append_c97b9 18 = .ok (.invokevirtual 83, 3)) ⟨by decide, by decide⟩) hS (fun r H1 locs1 hv hS => ?_)
  obtain ⟨rfl, hw⟩ := hv
  refine lv_if_eq hx hb (by decide +kernel : decode cJ5_append_c97b9 21 = .ok (.ifCond .eq 16, 3)) (tgt := 37) (by decide) (fun q => absurd q (by decide)) fun _ => ?_
  refine lv_iload_n hx hb (by decide +kernel : decode cJ5_append_c97b9 24 = .ok (.iload_n 1, 1)) rfl (lv_at hl 3 rfl) ?_
  refine lv_iload_n hx hb (by decide +kernel : decode cJ5_append_c97b9 25 = .ok (.iload_n 3, 1)) rfl (lv_at hl 0 rfl) ?_
  refine lv_aload_n hx hb (by decide +kernel : decode cJ5_append_c97b9 26 = .ok (.aload_n 0, 1)) rfl (lv_at hl 2 rfl) ?_
  refine va_get (D := D) (ci := 0) (v := .ref av') (C := RJ4) (T := TJ4) (N := 4) hx hb hT jt_ws4 hown hK hw.1 0 rfl rfl 0 (by decide) (hT _ okT_f_AbstractStringBuilder_15) (fun _ h => h) rfl (by decide +kernel : decode cJ5_append_c97b9 27 = .ok (.getfield 15, 3)) ?_
  refine t_use (va_runS (Ts := TG) (As := [.int (nI v), .int (nI (t9.length + (nu v).length)), .ref av']) (n := 3) (nL := 4) (rest := []) ⟨hx, hb, hml, hown, hT⟩ (jt_gch hF hG (x := nI t9.length) (P0 := t9.length) hv9 hge.1 hcl hfg) ⟨pj_cb hT okT_J6_getChars_ba4f3_c okT_i_java_lang_Integer okT_l_AbstractStringBuilder_248 ⟨by decide, by decide, by decide +kernel⟩ ⟨by decide, by decide⟩, hT _ okT_J6_getChars_ba4f3_s⟩ ⟨tP_blind, hpre hS hw _⟩ rfl rfl hl.1 rfl (by show 2 * 0 + 0 ≤ 8; decide) (by decide +kernel : decode cJ5_append_c97b9 30 = .ok (.invokestatic 248, 3)) ⟨by decide, by decide⟩) hS (fun r H1 locs1 hv hS => ?_)
  obtain ⟨⟨z, rfl⟩, g2, hw, hfg2, hk1, hk2⟩ := hv
  refine lv_pop hx hb (by decide +kernel : decode cJ5_append_c97b9 33 = .ok (.pop, 1)) rfl ?_
  refine lv_goto hx hb (by decide +kernel : decode cJ5_append_c97b9 34 = .ok (.goto 14, 3)) (tgt := 48) (by decide) ?_
  refine lv_aload_n hx hb (by decide +kernel : decode cJ5_append_c97b9 48 = .ok (.aload_n 0, 1)) rfl (lv_at hl 2 rfl) ?_
  refine lv_iload_n hx hb (by decide +kernel : decode cJ5_append_c97b9 49 = .ok (.iload_n 3, 1)) rfl (lv_at hl 0 rfl) ?_
  refine va_put (D := D) (ci := 0) (v := .int (nI (t9.length + (nu v).length))) (ty := .int) (C := RJ4) (T := TJ4) (N := 4) hx hb hT jt_ws4 tyJ4 tyJ4_ok nmJ4 hown hK hw.1 hw.2 hS 0 rfl rfl 3 (by decide) (hT _ okT_f_AbstractStringBuilder_79) (fun _ h => h) rfl (by decide +kernel) rfl rfl (by show 3 < 4; decide) (by decide +kernel : decode cJ5_append_c97b9 50 = .ok (.putfield 79, 3)) (fun H2 locs2 hP2 hD2 hS2 => ?_)
  refine lv_aload_n hx hb (by decide +kernel : decode cJ5_append_c97b9 53 = .ok (.aload_n 0, 1)) rfl (lv_at hl 2 rfl) ?_
  refine W.widen (k := 1) (n := 1602) (by decide) (by decide) ?_
  have hfin : SBt D cB s0 sb b0 (t9 ++ nu v) k H2 := by
    have e : (t9 ++ nu v).length = t9.length + (nu v).length := List.length_append
    refine ⟨av', g2, ⟨?_, ?_⟩, hfg2, ?_, fun j hj => ?_⟩
    · rw [e]
      exact hP2
    · rw [e]
      exact hD2
    · rw [e]
      exact hge.1
    · rw [e] at hj
      rw [getD_app]
      by_cases y : j < t9.length
      · rw [if_pos y, hk1 j y, hg j (by omega), hf j y]
      · rw [if_neg y]
        have := hk2 (j - t9.length) (by omega)
        rwa [show t9.length + (j - t9.length) = j by omega] at this
  exact W.aret hx hb B.returns (Or.inl ⟨_, rfl⟩) (Or.inr ⟨_, rfl⟩) (fun t ht _ => ⟨_, rfl, hS2.F ht, rfl, by rw [ht]; exact hfin⟩) hS2.2.2 (by decide +kernel : decode cJ5_append_c97b9 54 = .ok (.areturn, 1)) B.notSynchronized
theorem jt_sbI (hF : tFx D cB s0 a0) (hG : tDg dO dT s0) {v : Nat} (hv9 : v < 100) (h1 : t9.length < 700) (h2 : m9 ≤ 1602) : tMet l yJ4_append_bf812 cJ4_append_bf812 2 (some (.object "java/lang/StringBuilder")) 5 170 1 1602 s0 [.ref sb, .int (nI v)] (SBt D cB s0 sb b0 t9 m9) (fun r H => r = some (.ref sb) ∧ SBt D cB s0 sb b0 (t9 ++ nu v) (capJ (t9.length + (nu v).length) m9) H) := by
  refine Met.ofW (by decide) rfl fun p e s m args below meth c s₁ B hml hP => ?_
  obtain ⟨rfl, hW, hS0, hw⟩ := hP
  have hx := B.exec
  have hb := B.bytes
  have hT := pj_at hF.1 hW #[Value.ref sb, Value.int (nI v)]
  have hTS := TS_at hF.1 hW #[Value.ref sb, Value.int (nI v)]
  have hK := va_K.moved hW.alike hF.2.1
  have hZ := (va_Z.moved hW.alike hF.2.2).kept hS0.2.1
  have hown := findClass_of_methodNamed B.named
  have hS : va_S (tA s0) s.heap s.heap [] := va_S.rf
  have hA : ∀ q : Nat, s.heap.size ≤ q → tA s0 q := fun q h => Nat.le_trans hS0.1 h
  have hpre : ∀ {H1 : Heap} {locs1 : List Loc} {Wd : Heap → Prop}, va_S (tA s0) s.heap H1 locs1 → Wd H1 → ∀ (av : List Value) (U : State), U.heap = H1 → s.WarmedH U.vm → tP s0 av Wd av.toArray U := fun hS1 hw1 av U hU hWU => ⟨rfl, State.WarmedH.trans hW hWU, by rw [hU]; exact pas_nil (pas_trans hS0 hS1), by rw [hU]; exact hw1⟩
  have hl := lv_entry [.ref sb, .int (nI v)] (n := 2) (Nat.le_of_ble_eq_true rfl)
  rw [lg_entry_eq]
  generalize (lg_sl [.ref sb, .int (nI v)] ++ List.replicate (2 - (lg_sl [.ref sb, .int (nI v)]).length) Slot.unset).toArray = ls at hl ⊢
  have hl : lv_has ls 2 [(0, .ref sb), (1, .int (nI v))] := hl
  have hw9 := hw
  obtain ⟨av, f, hwc, hfit, hle, hf⟩ := hw
  refine lv_aload_n hx hb (by decide +kernel : decode cJ4_append_bf812 0 = .ok (.aload_n 0, 1)) rfl (lv_at hl 0 rfl) ?_
  refine lv_iload_n hx hb (by decide +kernel : decode cJ4_append_bf812 1 = .ok (.iload_n 1, 1)) rfl (lv_at hl 1 rfl) ?_
  refine t_use (va_runSU (C := RJ4) (Ts := TG) (As := [.int (nI v)]) (n := 1) (nL := 2) (rest := []) (hK.1 0 _ rfl).2 ⟨hx, hb, hml, hown, hT⟩ (jt_apI hF hG hv9 h1 h2) (va_cwSU (Ts := TG) (ws' := []) 1 hT (suw okT_l_StringBuilder_53 okT_m_J5_append_c97b9 okT_u_StringBuilder okT_J5_append_c97b9_i okT_i_java_lang_AbstractStringBuilder okT_J5_append_c97b9_c) rfl rfl rfl ⟨by decide, by decide +kernel⟩ ⟨by decide, by decide⟩) ⟨tP_blind, va_recv hK hwc.1 (ci := 0) (q0 := 0) rfl rfl, hpre hS hw9 _⟩ rfl rfl hl.1 rfl (by show 2 * 0 + 0 ≤ 8; decide) (by decide +kernel : decode cJ4_append_bf812 2 = .ok (.invokespecial 53, 3)) ⟨by decide, by decide⟩) hS (fun r H1 locs1 hv hS => ?_)
  obtain ⟨rfl, hw⟩ := hv
  refine lv_pop hx hb (by decide +kernel : decode cJ4_append_bf812 5 = .ok (.pop, 1)) rfl ?_
  refine lv_aload_n hx hb (by decide +kernel : decode cJ4_append_bf812 6 = .ok (.aload_n 0, 1)) rfl (lv_at hl 0 rfl) ?_
  refine W.widen (k := 1) (n := 1602) (by decide) (by decide) ?_
  exact W.aret hx hb B.returns (Or.inl ⟨_, rfl⟩) (Or.inr ⟨_, rfl⟩) (fun t ht _ => ⟨_, rfl, hS.F ht, rfl, by rw [ht]; exact hw⟩) hS.2.2 (by decide +kernel : decode cJ4_append_bf812 7 = .ok (.areturn, 1)) B.notSynchronized
end JT7
