/-! THE TEXT: the string is made -/
theorem ovw {own C : String} {idx : Nat} {x y : MethodName} {code : Cond} (h1 : Cond.methodLink own idx x ∈ TG) (h2 : Cond.sameMethod x.cls x.cls x.name x.desc ∈ TG) (h3 : Cond.instanceMethod ⟨x.cls, x.name, x.desc⟩ ∈ TG) (h4 : Cond.selects C x y ∈ TG) (h5 : Cond.instanceMethod y ∈ TG) (h6 : Cond.initialized y.cls ∈ TG) (h7 : code ∈ TG) : GoodIn TG (va_wsO own idx C x.cls x y [code]) := fun w h => TG_in w (by
  unfold va_wsO at h
  simp only [List.mem_append, List.mem_cons, List.not_mem_nil, or_false] at h
  rcases h with (rfl | rfl | rfl | rfl | rfl | rfl) | rfl
  · exact h1
  · exact h2
  · exact h3
  · exact h4
  · exact h5
  · exact h6
  · exact h7)
section JT14
variable {l : Launch} {D : va_G} {cB : ClassId} {s0 : State} {a0 : Array Value} {sb av dO dT ad as9 st : Nat} {b0 : Int32} {n m9 : Nat} {f : Nat → Int32} {Wd : Heap → Prop} {t9 u9 : List Nat} {ws : va_W}
abbrev stW (cB : ClassId) (sb av : Nat) (b0 n : Int32) (m : Nat) (f : Nat → Int32) (st : Nat) (v : Value) : va_W := sbW cB sb av b0 n m f ++ [(st, .inr (1, [v, .int 0, .int 0, .int 0]))]
theorem jt_si2 (hF : tFx D cB s0 a0) {k : Nat} (h1 : k ≤ m9) (h2 : m9 ≤ 1602) (hfit : sb_Fit f) : tMet l yJ0_init_db425 cJ0_init_db425 5 none 3 130 1 k s0 [.ref st, .ref sb, .null] (WS D s0 (stW cB sb av b0 (nI k) m9 f st .null)) (fun r H => r = none ∧ ∃ q g, WS D s0 (stW cB sb av b0 (nI k) m9 f st (.ref q) ++ [(q, .inl (cB, k, .inl g))]) H ∧ sb_Fit g ∧ ∀ j, j < k → g j = f j) := by
  refine Met.ofW (by decide) rfl fun p e s m args below meth c s₁ B hml hP => ?_
  obtain ⟨rfl, hW, hS0, hw⟩ := hP
  have hx := B.exec
  have hb := B.bytes
  have hT := pj_at hF.1 hW #[Value.ref st, Value.ref sb, Value.null]
  have hTS := TS_at hF.1 hW #[Value.ref st, Value.ref sb, Value.null]
  have hK := va_K.moved hW.alike hF.2.1
  have hZ := (va_Z.moved hW.alike hF.2.2).kept hS0.2.1
  have hown := findClass_of_methodNamed B.named
  have hS : va_S (tA s0) s.heap s.heap [] := va_S.rf
  have hA : ∀ q : Nat, s.heap.size ≤ q → tA s0 q := fun q h => Nat.le_trans hS0.1 h
  have hpre : ∀ {H1 : Heap} {locs1 : List Loc} {Wd : Heap → Prop}, va_S (tA s0) s.heap H1 locs1 → Wd H1 → ∀ (av : List Value) (U : State), U.heap = H1 → s.WarmedH U.vm → tP s0 av Wd av.toArray U := fun hS1 hw1 av U hU hWU => ⟨rfl, State.WarmedH.trans hW hWU, by rw [hU]; exact pas_nil (pas_trans hS0 hS1), by rw [hU]; exact hw1⟩
  have hl := lv_entry [.ref st, .ref sb, .null] (n := 5) (Nat.le_of_ble_eq_true rfl)
  rw [lg_entry_eq]
  generalize (lg_sl [.ref st, .ref sb, .null] ++ List.replicate (5 - (lg_sl [.ref st, .ref sb, .null]).length) Slot.unset).toArray = ls at hl ⊢
  have hl : lv_has ls 5 [(0, .ref st), (1, .ref sb), (2, .null)] := hl
  have hin : meth.name = "<init>" := (name_of_methodNamed B.named B.method).1
  refine lv_aload_n hx hb (by decide +kernel : decode cJ0_init_db425 0 = .ok (.aload_n 0, 1)) rfl (lv_at hl 0 rfl) ?_
  refine W.objInit hx hb hown (hT _ okT_l_String_1) (hT _ okJ_oi) (hT _ okJ_ci) rfl (by rw [hml]; exact hl.1) rfl (by decide +kernel : decode cJ0_init_db425 1 = .ok (.invokespecial 1, 3)) (by show 1 ≤ 3; decide) (by show 2 * 0 + 0 + 12 ≤ 130; decide) ?_
  refine W.eq (g2 := F0 m 4 ls []) rfl ?_
  refine lv_aload_n hx hb (by decide +kernel : decode cJ0_init_db425 4 = .ok (.aload_n 1, 1)) rfl (lv_at hl 1 rfl) ?_
  refine t_use (va_runV (C := RJ4) (Ts := TG) (As := []) (n := 0) (nL := 5) (rest := []) ⟨hx, hb, hml, hown, hT⟩ (jt_gvl hF (k1 := 0) (ws := stW cB sb av b0 (nI k) m9 f st .null) rfl) ⟨pj_cb hT okT_J5_getValue_6d5f1_c okT_i_java_lang_AbstractStringBuilder okT_l_String_552 ⟨by decide, by decide, by decide +kernel⟩ ⟨by show 0 + 1 ≤ 3; decide, by show 8 + (1 + 11) + 0 ≤ 130; decide⟩, hT _ okT_J5_getValue_6d5f1_i, hT _ okT_v_StringBuilder_J5_getValue_6d5f1⟩ ⟨tP_blind, va_recv hK hw.1 (ci := 0) (q0 := 0) rfl rfl, hpre hS hw _⟩ rfl rfl hl.1 rfl (by show 2 * 0 + 0 ≤ 8; decide) (by decide +kernel : decode cJ0_init_db425 5 = .ok (.invokevirtual 552, 3)) ⟨by show 0 + 0 ≤ 1; decide, by show 0 + 0 ≤ k; omega⟩) hS (fun r H1 locs1 hv hS => ?_)
  obtain ⟨rfl, hw⟩ := hv
  refine lv_astore_n hx hb (by decide +kernel : decode cJ0_init_db425 8 = .ok (.astore_n 3, 1)) rfl hl (by decide) rfl (fun ls hl => ?_)
  refine lv_aload_n hx hb (by decide +kernel : decode cJ0_init_db425 9 = .ok (.aload_n 1, 1)) rfl (lv_at hl 2 rfl) ?_
  refine t_use (va_runU (x := yJ5_length_8abf5) (C := RJ4) (owner := RJ5) (Ts := TG) (As := []) (n := 0) (nL := 5) (rest := []) ⟨hx, hb, hml, hown, hT⟩ (jt_len4 hF (k1 := 0) (ws := stW cB sb av b0 (nI k) m9 f st .null) rfl) (va_cwO (Ts := TG) (ws' := []) 0 hT (ovw (x := yJ5_length_8abf5) okT_l_String_549 okT_m_J5_length_8abf5 okT_J5_length_8abf5_i okT_v_StringBuilder_J4_length_8abf5 okT_J4_length_8abf5_i okT_i_java_lang_StringBuilder okT_J4_length_8abf5_c) rfl rfl rfl okT_J5_length_8abf5_c ⟨by decide, by decide, by decide +kernel⟩ ⟨by show 1 + 1 ≤ 3; decide, by show 8 + (1 + 11) + 20 ≤ 130; decide⟩) ⟨tP_blind, va_recv hK hw.1 (ci := 0) (q0 := 0) rfl rfl, hpre hS hw _⟩ rfl rfl hl.1 rfl (by show 2 * 0 + 0 ≤ 8; decide) (by decide +kernel : decode cJ0_init_db425 10 = .ok (.invokevirtual 549, 3)) ⟨by show 0 + 0 ≤ 1; decide, by show 0 + 0 ≤ k; omega⟩) hS (fun r H1 locs1 hv hS => ?_)
  obtain ⟨rfl, hw⟩ := hv
  refine lv_istore hx hb (by decide +kernel : decode cJ0_init_db425 13 = .ok (.istore 4, 2)) hl (by decide) rfl (fun ls hl => ?_)
  refine lv_aload_n hx hb (by decide +kernel : decode cJ0_init_db425 15 = .ok (.aload_n 1, 1)) rfl (lv_at hl 3 rfl) ?_
  refine t_use (va_runV (C := RJ4) (Ts := TG) (As := []) (n := 0) (nL := 5) (rest := []) ⟨hx, hb, hml, hown, hT⟩ (jt_latW hF (k1 := 0) (ws := stW cB sb av b0 (nI k) m9 f st .null) rfl) ⟨pj_cb hT okT_J5_isLatin1_aae02_c okT_i_java_lang_AbstractStringBuilder okT_l_String_1047 ⟨by decide, by decide, by decide +kernel⟩ ⟨by show 0 + 1 ≤ 3; decide, by show 8 + (1 + 11) + 0 ≤ 130; decide⟩, hT _ okT_J5_isLatin1_aae02_i, hT _ okT_v_StringBuilder_J5_isLatin1_aae02⟩ ⟨tP_blind, va_recv hK hw.1 (ci := 0) (q0 := 0) rfl rfl, hpre hS hw _⟩ rfl rfl hl.1 rfl (by show 2 * 0 + 0 ≤ 8; decide) (by decide +kernel : decode cJ0_init_db425 16 = .ok (.invokevirtual 1047, 3)) ⟨by show 0 + 0 ≤ 1; decide, by show 0 + 0 ≤ k; omega⟩) hS (fun r H1 locs1 hv hS => ?_)
  obtain ⟨rfl, hw⟩ := hv
  refine lv_if_eq hx hb (by decide +kernel : decode cJ0_init_db425 19 = .ok (.ifCond .eq 22, 3)) (tgt := 41) (by decide) (fun q => absurd q (by decide)) fun _ => ?_
  refine lv_aload_n hx hb (by decide +kernel : decode cJ0_init_db425 22 = .ok (.aload_n 0, 1)) rfl (lv_at hl 2 rfl) ?_
  refine lv_iconst (v := 0) hx hb (by decide +kernel : decode cJ0_init_db425 23 = .ok (.iconst 0, 1)) rfl ?_
  refine va_putF (D := D) (ci := 1) (v := .int 0) (ty := .byte) (C := RJ0) (T := TJ0) (N := 4) hx hb hT jt_ws0 tyJ0 tyJ0_ok nmJ0 hown hK hw.1 hw.2 hS 2 rfl rfl 1 (by decide) (hT _ okT_f_String_15) (fun _ h => h) rfl hin rfl (by decide +kernel) rfl rfl (by show 1 < 4; decide) (by decide +kernel : decode cJ0_init_db425 24 = .ok (.putfield 15, 3)) (fun H1 locs1 hP hD hS => ?_)
  have hw : WS D s0 (stW cB sb av b0 (nI k) m9 f st .null) H1 := ⟨hP, hD⟩
  refine lv_aload_n hx hb (by decide +kernel : decode cJ0_init_db425 27 = .ok (.aload_n 0, 1)) rfl (lv_at hl 2 rfl) ?_
  refine lv_aload_n hx hb (by decide +kernel : decode cJ0_init_db425 28 = .ok (.aload_n 3, 1)) rfl (lv_at hl 1 rfl) ?_
  refine lv_iconst (v := 0) hx hb (by decide +kernel : decode cJ0_init_db425 29 = .ok (.iconst 0, 1)) rfl ?_
  refine lv_iload hx hb (by decide +kernel : decode cJ0_init_db425 30 = .ok (.iload 4, 2)) (lv_at hl 0 rfl) ?_
  refine t_use (va_runS (Ts := TG) (As := [.ref av, .int 0, .int (nI k)]) (n := 3) (nL := 5) (rest := [.ref st]) ⟨hx, hb, hml, hown, hT⟩ (jt_cor hF (ws := stW cB sb av b0 (nI k) m9 f st .null) (k0 := 1) rfl h1 h2 hfit) ⟨pj_cb hT okT_J7_copyOfRange_39247_c okT_i_java_util_Arrays okT_l_String_54 ⟨by decide, by decide, by decide +kernel⟩ ⟨by show 2 + 1 ≤ 3; decide, by show 8 + (3 + 11) + 90 ≤ 130; decide⟩, hT _ okT_J7_copyOfRange_39247_s⟩ ⟨tP_blind, hpre hS hw _⟩ rfl rfl hl.1 rfl (by show 2 * 0 + (1 + 0) ≤ 8; decide) (by decide +kernel : decode cJ0_init_db425 32 = .ok (.invokestatic 54, 3)) ⟨by show 0 + 0 + 0 + 0 + 1 ≤ 1; decide, by show 0 + 0 + 0 + 0 + k ≤ k; omega⟩) hS (fun r H1 locs1 hv hS => ?_)
  obtain ⟨q, g, rfl, hw, hg1, hg2⟩ := hv
  refine va_putF (D := D) (ci := 1) (v := .ref q) (ty := .array .byte) (C := RJ0) (T := TJ0) (N := 4) hx hb hT jt_ws0 tyJ0 tyJ0_ok nmJ0 hown hK hw.1 hw.2 hS 2 rfl rfl 0 (by decide) (hT _ okT_f_String_9) (fun _ h => h) rfl hin rfl (by decide +kernel) rfl rfl (by show 0 < 4; decide) (by decide +kernel : decode cJ0_init_db425 35 = .ok (.putfield 9, 3)) (fun H2 locs2 hP hD hS => ?_)
  refine lv_goto hx hb (by decide +kernel : decode cJ0_init_db425 38 = .ok (.goto 59, 3)) (tgt := 97) (by decide) ?_
  refine W.widen (k := 1) (n := k) (by show 0 + 0 + 0 + 0 + 1 ≤ 1; decide) (by show 0 + 0 + 0 + 0 + k ≤ k; omega) ?_
  exact W.vret hx hb B.returns (fun t ht _ => ⟨_, rfl, hS.F ht, rfl, q, g, by rw [ht]; exact ⟨hP, hD⟩, hg1, hg2⟩) hS.2.2 (by decide +kernel : decode cJ0_init_db425 97 = .ok (.return_, 1)) B.notSynchronized
end JT14
