/-! THE TEXT: a letter is added -/
/-- a builder that holds a text -/
def SBt (D : va_G) (cB : ClassId) (s0 : State) (sb : Nat) (b0 : Int32) (t : List Nat) (m : Nat) (H : Heap) : Prop := ∃ (av : Nat) (f : Nat → Int32), SBc D cB s0 sb av b0 (nI t.length) m f H ∧ sb_Fit f ∧ t.length ≤ m ∧ ∀ j, j < t.length → f j = sb_b (t.getD j 0)
theorem suw {own : String} {idx : Nat} {y : MethodName} {code : Cond} (h1 : Cond.methodLink own idx y ∈ TG) (h2 : Cond.sameMethod y.cls y.cls y.name y.desc ∈ TG) (h3 : Cond.superclass own y.cls ∈ TG) (h4 : Cond.instanceMethod y ∈ TG) (h5 : Cond.initialized y.cls ∈ TG) (h6 : code ∈ TG) : GoodIn TG (va_wsSU own idx y [code]) := fun w h => TG_in w (by
  unfold va_wsSU at h
  simp only [List.mem_append, List.mem_cons, List.not_mem_nil, or_false] at h
  rcases h with (rfl | rfl | rfl | rfl | rfl) | rfl
  · exact h1
  · exact h2
  · exact h3
  · exact h4
  · exact h5
  · exact h6)
section JT4
variable {l : Launch} {D : va_G} {cB : ClassId} {s0 : State} {a0 : Array Value} {sb av : Nat} {b0 : Int32} {n m9 : Nat} {f : Nat → Int32} {Wd : Heap → Prop} {t9 : List Nat}
theorem jt_apC (hF : tFx D cB s0 a0) {x : Nat} (hx9 : x < 128) (h1 : t9.length < 800) (h2 : m9 ≤ 1602) : tMet l yJ5_append_3fe6f cJ5_append_3fe6f 2 (some (.object "java/lang/AbstractStringBuilder")) 4 122 1 1602 s0 [.ref sb, .int (nI x)] (SBt D cB s0 sb b0 t9 m9) (fun v H => v = some (.ref sb) ∧ SBt D cB s0 sb b0 (t9 ++ [x]) (capJ (t9.length + 1) m9) H) := by
  refine Met.ofW (by decide) rfl fun p e s m args below meth c s₁ B hml hP => ?_
  obtain ⟨rfl, hW, hS0, hw⟩ := hP
  have hx := B.exec
  have hb := B.bytes
  have hT := pj_at hF.1 hW #[Value.ref sb, Value.int (nI x)]
  have hTS := TS_at hF.1 hW #[Value.ref sb, Value.int (nI x)]
  have hK := va_K.moved hW.alike hF.2.1
  have hZ := (va_Z.moved hW.alike hF.2.2).kept hS0.2.1
  have hown := findClass_of_methodNamed B.named
  have hS : va_S (tA s0) s.heap s.heap [] := va_S.rf
  have hA : ∀ q : Nat, s.heap.size ≤ q → tA s0 q := fun q h => Nat.le_trans hS0.1 h
  have hpre : ∀ {H1 : Heap} {locs1 : List Loc} {Wd : Heap → Prop}, va_S (tA s0) s.heap H1 locs1 → Wd H1 → ∀ (av : List Value) (U : State), U.heap = H1 → s.WarmedH U.vm → tP s0 av Wd av.toArray U := fun hS1 hw1 av U hU hWU => ⟨rfl, State.WarmedH.trans hW hWU, by rw [hU]; exact pas_nil (pas_trans hS0 hS1), by rw [hU]; exact hw1⟩
  have hl := lv_entry [.ref sb, .int (nI x)] (n := 2) (Nat.le_of_ble_eq_true rfl)
  rw [lg_entry_eq]
  generalize (lg_sl [.ref sb, .int (nI x)] ++ List.replicate (2 - (lg_sl [.ref sb, .int (nI x)]).length) Slot.unset).toArray = ls at hl ⊢
  have hl : lv_has ls 2 [(0, .ref sb), (1, .int (nI x))] := hl
  obtain ⟨av, f, hw, hfit, hle, hf⟩ := hw
  have hge := capJ_ge (t9.length + 1) m9
  have hcl := capJ_le (need := t9.length + 1) (m := m9) (by omega) h2
  refine lv_aload_n hx hb (by decide +kernel : decode cJ5_append_3fe6f 0 = .ok (.aload_n 0, 1)) rfl (lv_at hl 0 rfl) ?_
  refine lv_aload_n hx hb (by decide +kernel : decode cJ5_append_3fe6f 1 = .ok (.aload_n 0, 1)) rfl (lv_at hl 0 rfl) ?_
  refine va_get (D := D) (ci := 0) (v := .int (nI t9.length)) (C := RJ4) (T := TJ4) (N := 4) hx hb hT jt_ws4 hown hK hw.1 0 rfl rfl 3 (by decide) (hT _ okT_f_AbstractStringBuilder_79) (fun _ h => h) rfl (by decide +kernel : decode cJ5_append_3fe6f 2 = .ok (.getfield 79, 3)) ?_
  refine lv_iconst (v := nI 1) hx hb (by decide +kernel : decode cJ5_append_3fe6f 5 = .ok (.iconst 1, 1)) (by decide) ?_
  refine lv_iadd hx hb (by decide +kernel : decode cJ5_append_3fe6f 6 = .ok (.iadd, 1)) ?_
  rw [nI_add]
  refine t_use (va_runV (C := RJ4) (Ts := TG) (As := [.int (nI (t9.length + 1))]) (n := 1) (nL := 2) (rest := []) ⟨hx, hb, hml, hown, hT⟩ (jt_ens hF (x := nI t9.length) (need := t9.length + 1) (by omega) h2 hfit) ⟨pj_cb hT okT_J5_ensureCapacityInternal_d00df_c okT_i_java_lang_AbstractStringBuilder okT_l_AbstractStringBuilder_100 ⟨by decide, by decide, by decide +kernel⟩ ⟨by decide, by decide⟩, hT _ okT_J5_ensureCapacityInternal_d00df_i, hTS _ (tsm 0 rfl)⟩ ⟨tP_blind, va_recv hK hw.1 (ci := 0) (q0 := 0) rfl rfl, hpre hS hw _⟩ rfl rfl hl.1 rfl (by show 2 * 0 + 0 ≤ 8; decide) (by decide +kernel : decode cJ5_append_3fe6f 7 = .ok (.invokevirtual 100, 3)) ⟨by decide, by decide⟩) hS (fun v H1 locs1 hv hS => ?_)
  obtain ⟨rfl, av', g, hw, hfg, hg⟩ := hv
  generalize hk : capJ (t9.length + 1) m9 = k at *
  refine lv_aload_n hx hb (by decide +kernel : decode cJ5_append_3fe6f 10 = .ok (.aload_n 0, 1)) rfl (lv_at hl 0 rfl) ?_
  refine t_use (va_runV (C := RJ4) (Ts := TG) (As := []) (n := 0) (nL := 2) (rest := []) ⟨hx, hb, hml, hown, hT⟩ (jt_lat hF (sb := sb) (av := av') (b0 := b0) (n := nI t9.length) (m9 := k) (f := g)) ⟨pj_cb hT okT_J5_isLatin1_aae02_c okT_i_java_lang_AbstractStringBuilder okT_l_AbstractStringBuilder_83 ⟨by decide, by decide, by decide +kernel⟩ ⟨by decide, by decide⟩, hT _ okT_J5_isLatin1_aae02_i, hT _ okT_v_StringBuilder_J5_isLatin1_aae02⟩ ⟨tP_blind, va_recv hK hw.1 (ci := 0) (q0 := 0) rfl rfl, hpre hS hw _⟩ rfl rfl hl.1 rfl (by show 2 * 0 + 0 ≤ 8; decide) (by decide +kernel : decode cJ5_append_3fe6f 11 = .ok (.invokevirtual 83, 3)) ⟨by decide, by decide⟩) hS (fun v H1 locs1 hv hS => ?_)
  obtain ⟨rfl, hw⟩ := hv
  refine lv_if_eq hx hb (by decide +kernel : decode cJ5_append_3fe6f 14 = .ok (.ifCond .eq 31, 3)) (tgt := 45) (by decide) (fun q => absurd q (by decide)) fun _ => ?_
  refine lv_iload_n hx hb (by decide +kernel : decode cJ5_append_3fe6f 17 = .ok (.iload_n 1, 1)) rfl (lv_at hl 1 rfl) ?_
  refine t_use (va_runS (Ts := TG) (As := [.int (nI x)]) (n := 1) (nL := 2) (rest := []) ⟨hx, hb, hml, hown, hT⟩ (jt_can hF (x := x) (Wd := SBc D cB s0 sb av' b0 (nI t9.length) k g) (by omega)) ⟨pj_cb hT okT_J1_canEncode_fc78d_c okT_i_java_lang_StringLatin1 okT_l_AbstractStringBuilder_191 ⟨by decide, by decide, by decide +kernel⟩ ⟨by decide, by decide⟩, hT _ okT_J1_canEncode_fc78d_s⟩ ⟨tP_blind, hpre hS hw _⟩ rfl rfl hl.1 rfl (by show 2 * 0 + 0 ≤ 8; decide) (by decide +kernel : decode cJ5_append_3fe6f 18 = .ok (.invokestatic 191, 3)) ⟨by decide, by decide⟩) hS (fun v H1 locs1 hv hS => ?_)
  obtain ⟨rfl, hw⟩ := hv
  refine lv_if_eq hx hb (by decide +kernel : decode cJ5_append_3fe6f 21 = .ok (.ifCond .eq 24, 3)) (tgt := 45) (by decide) (fun q => absurd q (by decide)) fun _ => ?_
  refine lv_aload_n hx hb (by decide +kernel : decode cJ5_append_3fe6f 24 = .ok (.aload_n 0, 1)) rfl (lv_at hl 0 rfl) ?_
  refine va_get (D := D) (ci := 0) (v := .ref av') (C := RJ4) (T := TJ4) (N := 4) hx hb hT jt_ws4 hown hK hw.1 0 rfl rfl 0 (by decide) (hT _ okT_f_AbstractStringBuilder_15) (fun _ h => h) rfl (by decide +kernel : decode cJ5_append_3fe6f 25 = .ok (.getfield 15, 3)) ?_
  refine lv_aload_n hx hb (by decide +kernel : decode cJ5_append_3fe6f 28 = .ok (.aload_n 0, 1)) rfl (lv_at hl 0 rfl) ?_
  refine lv_dup hx hb (by decide +kernel : decode cJ5_append_3fe6f 29 = .ok (.dup, 1)) rfl ?_
  refine va_get (D := D) (ci := 0) (v := .int (nI t9.length)) (C := RJ4) (T := TJ4) (N := 4) hx hb hT jt_ws4 hown hK hw.1 0 rfl rfl 3 (by decide) (hT _ okT_f_AbstractStringBuilder_79) (fun _ h => h) rfl (by decide +kernel : decode cJ5_append_3fe6f 30 = .ok (.getfield 79, 3)) ?_
  refine lv_dup_x1 hx hb (by decide +kernel : decode cJ5_append_3fe6f 33 = .ok (.dup_x1, 1)) rfl rfl ?_
  refine lv_iconst (v := nI 1) hx hb (by decide +kernel : decode cJ5_append_3fe6f 34 = .ok (.iconst 1, 1)) (by decide) ?_
  refine lv_iadd hx hb (by decide +kernel : decode cJ5_append_3fe6f 35 = .ok (.iadd, 1)) ?_
  rw [nI_add]
  refine va_put (D := D) (ci := 0) (v := .int (nI (t9.length + 1))) (ty := .int) (C := RJ4) (T := TJ4) (N := 4) hx hb hT jt_ws4 tyJ4 tyJ4_ok nmJ4 hown hK hw.1 hw.2 hS 0 rfl rfl 3 (by decide) (hT _ okT_f_AbstractStringBuilder_79) (fun _ h => h) rfl (by decide +kernel) rfl rfl (by show 3 < 4; decide) (by decide +kernel : decode cJ5_append_3fe6f 36 = .ok (.putfield 79, 3)) (fun H2 locs2 hP2 hD2 hS2 => ?_)
  refine lv_iload_n hx hb (by decide +kernel : decode cJ5_append_3fe6f 39 = .ok (.iload_n 1, 1)) rfl (lv_at hl 1 rfl) ?_
  refine lv_i2b (v := sb_b x) hx hb (by decide +kernel : decode cJ5_append_3fe6f 40 = .ok (.i2b, 1)) rfl ?_
  refine va_bast hx hb hK hP2 hD2 hS2 1 0 rfl rfl (vp_in_nI (by omega) (by omega)) (by decide +kernel : decode cJ5_append_3fe6f 41 = .ok (.bastore, 1)) (fun H3 locs3 hP3 hD3 hS3 => ?_)
  refine lv_goto hx hb (by decide +kernel : decode cJ5_append_3fe6f 42 = .ok (.goto 33, 3)) (tgt := 75) (by decide) ?_
  refine lv_aload_n hx hb (by decide +kernel : decode cJ5_append_3fe6f 75 = .ok (.aload_n 0, 1)) rfl (lv_at hl 0 rfl) ?_
  refine W.widen (k := 1) (n := 1602) (by decide) (by decide) ?_
  have e9 : upd g (nI t9.length).toNatClampNeg (vp_nar .byte (sb_b x)) = upd g t9.length (sb_b x) := by
    rw [nI_clamp (by omega)]
    exact congrArg _ (pk_vb (nI x))
  rw [e9] at hP3 hD3
  have hfin : SBt D cB s0 sb b0 (t9 ++ [x]) k H3 := by
    have e : (t9 ++ [x]).length = t9.length + 1 := List.length_append
    refine ⟨av', upd g t9.length (sb_b x), ⟨?_, ?_⟩, sb_fitU hfg (sb_fitB x), ?_, fun j hj => ?_⟩
    · rw [e]
      exact hP3
    · rw [e]
      exact hD3
    · rw [e]
      exact hge.1
    · rw [e] at hj
      by_cases e : j = t9.length
      · rw [e, List.getD_eq_getElem?_getD, List.getElem?_append_right (Nat.le_refl _), Nat.sub_self]
        exact pk_us
      · have hj2 : j < t9.length := by omega
        rw [pk_un e, hg j (by omega), hf j hj2, List.getD_eq_getElem?_getD, List.getD_eq_getElem?_getD, List.getElem?_append_left hj2]
  exact W.aret hx hb B.returns (Or.inl ⟨_, rfl⟩) (Or.inr ⟨_, rfl⟩) (fun t ht _ => ⟨_, rfl, hS3.F ht, rfl, by rw [ht]; exact hfin⟩) hS3.2.2 (by decide +kernel : decode cJ5_append_3fe6f 76 = .ok (.areturn, 1)) B.notSynchronized
theorem jt_sbC (hF : tFx D cB s0 a0) {x : Nat} (hx9 : x < 128) (h1 : t9.length < 800) (h2 : m9 ≤ 1602) : tMet l yJ4_append_cf468 cJ4_append_cf468 2 (some (.object "java/lang/StringBuilder")) 5 150 1 1602 s0 [.ref sb, .int (nI x)] (SBt D cB s0 sb b0 t9 m9) (fun v H => v = some (.ref sb) ∧ SBt D cB s0 sb b0 (t9 ++ [x]) (capJ (t9.length + 1) m9) H) := by
  refine Met.ofW (by decide) rfl fun p e s m args below meth c s₁ B hml hP => ?_
  obtain ⟨rfl, hW, hS0, hw⟩ := hP
  have hx := B.exec
  have hb := B.bytes
  have hT := pj_at hF.1 hW #[Value.ref sb, Value.int (nI x)]
  have hTS := TS_at hF.1 hW #[Value.ref sb, Value.int (nI x)]
  have hK := va_K.moved hW.alike hF.2.1
  have hZ := (va_Z.moved hW.alike hF.2.2).kept hS0.2.1
  have hown := findClass_of_methodNamed B.named
  have hS : va_S (tA s0) s.heap s.heap [] := va_S.rf
  have hA : ∀ q : Nat, s.heap.size ≤ q → tA s0 q := fun q h => Nat.le_trans hS0.1 h
  have hpre : ∀ {H1 : Heap} {locs1 : List Loc} {Wd : Heap → Prop}, va_S (tA s0) s.heap H1 locs1 → Wd H1 → ∀ (av : List Value) (U : State), U.heap = H1 → s.WarmedH U.vm → tP s0 av Wd av.toArray U := fun hS1 hw1 av U hU hWU => ⟨rfl, State.WarmedH.trans hW hWU, by rw [hU]; exact pas_nil (pas_trans hS0 hS1), by rw [hU]; exact hw1⟩
  have hl := lv_entry [.ref sb, .int (nI x)] (n := 2) (Nat.le_of_ble_eq_true rfl)
  rw [lg_entry_eq]
  generalize (lg_sl [.ref sb, .int (nI x)] ++ List.replicate (2 - (lg_sl [.ref sb, .int (nI x)]).length) Slot.unset).toArray = ls at hl ⊢
  have hl : lv_has ls 2 [(0, .ref sb), (1, .int (nI x))] := hl
  have hw9 := hw
  obtain ⟨av, f, hwc, hfit, hle, hf⟩ := hw
  refine lv_aload_n hx hb (by decide +kernel : decode cJ4_append_cf468 0 = .ok (.aload_n 0, 1)) rfl (lv_at hl 0 rfl) ?_
  refine lv_iload_n hx hb (by decide +kernel : decode cJ4_append_cf468 1 = .ok (.iload_n 1, 1)) rfl (lv_at hl 1 rfl) ?_
  refine t_use (va_runSU (C := RJ4) (Ts := TG) (As := [.int (nI x)]) (n := 1) (nL := 2) (rest := []) (hK.1 0 _ rfl).2 ⟨hx, hb, hml, hown, hT⟩ (jt_apC hF hx9 h1 h2) (va_cwSU (Ts := TG) (ws' := []) 1 hT (suw okT_l_StringBuilder_50 okT_m_J5_append_3fe6f okT_u_StringBuilder okT_J5_append_3fe6f_i okT_i_java_lang_AbstractStringBuilder okT_J5_append_3fe6f_c) rfl rfl rfl ⟨by decide, by decide +kernel⟩ ⟨by decide, by decide⟩) ⟨tP_blind, va_recv hK hwc.1 (ci := 0) (q0 := 0) rfl rfl, hpre hS hw9 _⟩ rfl rfl hl.1 rfl (by show 2 * 0 + 0 ≤ 8; decide) (by decide +kernel : decode cJ4_append_cf468 2 = .ok (.invokespecial 50, 3)) ⟨by decide, by decide⟩) hS (fun v H1 locs1 hv hS => ?_)
  obtain ⟨rfl, hw⟩ := hv
  refine lv_pop hx hb (by decide +kernel : decode cJ4_append_cf468 5 = .ok (.pop, 1)) rfl ?_
  refine lv_aload_n hx hb (by decide +kernel : decode cJ4_append_cf468 6 = .ok (.aload_n 0, 1)) rfl (lv_at hl 0 rfl) ?_
  refine W.widen (k := 1) (n := 1602) (by decide) (by decide) ?_
  exact W.aret hx hb B.returns (Or.inl ⟨_, rfl⟩) (Or.inr ⟨_, rfl⟩) (fun t ht _ => ⟨_, rfl, hS.F ht, rfl, by rw [ht]; exact hw⟩) hS.2.2 (by decide +kernel : decode cJ4_append_cf468 7 = .ok (.areturn, 1)) B.notSynchronized
end JT4
