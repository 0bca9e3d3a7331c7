/-! THE TEXT: a builder of a string -/
section JT18
variable {l : Launch} {D : va_G} {cB : ClassId} {s0 : State} {a0 : Array Value} {sb av dO dT ad as9 st : Nat} {b0 : Int32} {n m9 : Nat} {f : Nat → Int32} {Wd : Heap → Prop} {t9 u9 : List Nat} {ws : va_W}
theorem jt_in5 (hF : tFx D cB s0 a0) (hE : pSt u9 ad as9 (tA s0) s0 s0.heap) (hc9 : pch u9) (h1 : u9.length ≤ 100) : tMet l yJ5_init_a7421 cJ5_init_a7421 5 none 7 240 2 1802 s0 [.ref sb, .ref ad] (WS D s0 [(sb, .inr (0, [.null, .int 0, .int 0, .int 0]))]) (fun r H => r = none ∧ SBt D cB s0 sb 0 u9 (u9.length + 16) H) := by
  refine Met.ofW (by decide) rfl fun p e s m args below meth c s₁ B hml hP => ?_
  obtain ⟨rfl, hW, hS0, hw⟩ := hP
  have hx := B.exec
  have hb := B.bytes
  have hT := pj_at hF.1 hW #[Value.ref sb, Value.ref ad]
  have hTS := TS_at hF.1 hW #[Value.ref sb, Value.ref ad]
  have hK := va_K.moved hW.alike hF.2.1
  have hZ := (va_Z.moved hW.alike hF.2.2).kept hS0.2.1
  have hown := findClass_of_methodNamed B.named
  have hS : va_S (tA s0) s.heap s.heap [] := va_S.rf
  have hA : ∀ q : Nat, s.heap.size ≤ q → tA s0 q := fun q h => Nat.le_trans hS0.1 h
  have hpre : ∀ {H1 : Heap} {locs1 : List Loc} {Wd : Heap → Prop}, va_S (tA s0) s.heap H1 locs1 → Wd H1 → ∀ (av : List Value) (U : State), U.heap = H1 → s.WarmedH U.vm → tP s0 av Wd av.toArray U := fun hS1 hw1 av U hU hWU => ⟨rfl, State.WarmedH.trans hW hWU, by rw [hU]; exact pas_nil (pas_trans hS0 hS1), by rw [hU]; exact hw1⟩
  have hl := lv_entry [.ref sb, .ref ad] (n := 5) (Nat.le_of_ble_eq_true rfl)
  rw [lg_entry_eq]
  generalize (lg_sl [.ref sb, .ref ad] ++ List.replicate (5 - (lg_sl [.ref sb, .ref ad]).length) Slot.unset).toArray = ls at hl ⊢
  have hl : lv_has ls 5 [(0, .ref sb), (1, .ref ad)] := hl
  have hSS := (pSt.moved hW.alike hE).kept hS0.2.1
  refine lv_aload_n hx hb (by decide +kernel : decode cJ5_init_a7421 0 = .ok (.aload_n 0, 1)) rfl (lv_at hl 0 rfl) ?_
  refine W.objInit hx hb hown (hT _ okT_l_AbstractStringBuilder_3) (hT _ okJ_oi) (hT _ okJ_ci) rfl (by rw [hml]; exact hl.1) rfl (by decide +kernel : decode cJ5_init_a7421 1 = .ok (.invokespecial 3, 3)) (by show 1 ≤ 7; decide) (by show 2 * 0 + 0 + 12 ≤ 240; decide) ?_
  refine W.eq (g2 := F0 m 4 ls []) rfl ?_
  refine lv_aload_n hx hb (by decide +kernel : decode cJ5_init_a7421 4 = .ok (.aload_n 1, 1)) rfl (lv_at hl 1 rfl) ?_
  refine t_use (va_runV (C := "java/lang/String") (Ts := TG) (As := []) (n := 0) (nL := 5) (rest := []) ⟨hx, hb, hml, hown, hT⟩ (jt_sln hF hE (Wd := WS D s0 [(sb, .inr (0, [.null, .int 0, .int 0, .int 0]))])) ⟨pj_cb hT okK_len_c okK_iS okT_l_AbstractStringBuilder_32 ⟨by decide, by decide, by decide +kernel⟩ ⟨by decide, by decide⟩, hT _ okK_len_i, hT _ okK_len_v⟩ ⟨tP_blind, vk_recv hSS Nat.zero_lt_one hS, hpre hS hw _⟩ rfl rfl hl.1 rfl (by show 2 * 0 + 0 ≤ 8; decide) (by decide +kernel : decode cJ5_init_a7421 5 = .ok (.invokevirtual 32, 3)) ⟨by decide, by decide⟩) hS (fun r H1 locs1 hv hS => ?_)
  obtain ⟨rfl, hw⟩ := hv
  refine lv_istore_n hx hb (by decide +kernel : decode cJ5_init_a7421 8 = .ok (.istore_n 2, 1)) rfl hl (by decide) rfl (fun ls hl => ?_)
  refine lv_iload_n hx hb (by decide +kernel : decode cJ5_init_a7421 9 = .ok (.iload_n 2, 1)) rfl (lv_at hl 0 rfl) ?_
  refine lv_ldc hx hb hown (hT _ okT_k_AbstractStringBuilder_38) (by decide +kernel : decode cJ5_init_a7421 10 = .ok (.ldc 38, 2)) ?_
  refine lv_icmp_ge hx hb (by decide +kernel : decode cJ5_init_a7421 12 = .ok (.if_icmp .ge 10, 3)) (tgt := 22) (by decide) (fun q => absurd q (show ¬ nI 2147483631 ≤ nI u9.length from nI_ge (by omega) (by decide))) fun _ => ?_
  refine lv_iload_n hx hb (by decide +kernel : decode cJ5_init_a7421 15 = .ok (.iload_n 2, 1)) rfl (lv_at hl 0 rfl) ?_
  refine lv_bipush (v := nI 16) hx hb (by decide +kernel : decode cJ5_init_a7421 16 = .ok (.bipush 16, 2)) (by decide) ?_
  refine lv_iadd hx hb (by decide +kernel : decode cJ5_init_a7421 18 = .ok (.iadd, 1)) ?_
  rw [nI_add]
  refine lv_goto hx hb (by decide +kernel : decode cJ5_init_a7421 19 = .ok (.goto 5, 3)) (tgt := 24) (by decide) ?_
  refine lv_istore_n hx hb (by decide +kernel : decode cJ5_init_a7421 24 = .ok (.istore_n 3, 1)) rfl hl (by decide) rfl (fun ls hl => ?_)
  refine lv_aload_n hx hb (by decide +kernel : decode cJ5_init_a7421 25 = .ok (.aload_n 1, 1)) rfl (lv_at hl 3 rfl) ?_
  refine t_use (va_runV (C := "java/lang/String") (Ts := TG) (As := []) (n := 0) (nL := 5) (rest := []) ⟨hx, hb, hml, hown, hT⟩ (jt_cod hF hE (Wd := WS D s0 [(sb, .inr (0, [.null, .int 0, .int 0, .int 0]))])) ⟨pj_cb hT okK_coder_c okK_iS okT_l_AbstractStringBuilder_40 ⟨by decide, by decide, by decide +kernel⟩ ⟨by decide, by decide⟩, hT _ okK_coder_i, hT _ okK_coder_v⟩ ⟨tP_blind, vk_recv hSS Nat.zero_lt_one hS, hpre hS hw _⟩ rfl rfl hl.1 rfl (by show 2 * 0 + 0 ≤ 8; decide) (by decide +kernel : decode cJ5_init_a7421 26 = .ok (.invokevirtual 40, 3)) ⟨by decide, by decide⟩) hS (fun r H1 locs1 hv hS => ?_)
  obtain ⟨rfl, hw⟩ := hv
  refine lv_istore hx hb (by decide +kernel : decode cJ5_init_a7421 29 = .ok (.istore 4, 2)) hl (by decide) rfl (fun ls hl => ?_)
  refine lv_aload_n hx hb (by decide +kernel : decode cJ5_init_a7421 31 = .ok (.aload_n 0, 1)) rfl (lv_at hl 3 rfl) ?_
  refine lv_iload hx hb (by decide +kernel : decode cJ5_init_a7421 32 = .ok (.iload 4, 2)) (lv_at hl 0 rfl) ?_
  refine va_put (D := D) (ci := 0) (v := .int 0) (ty := .byte) (C := RJ4) (T := TJ4) (N := 4) hx hb hT jt_ws4 tyJ4 tyJ4_ok nmJ4 hown hK hw.1 hw.2 hS 0 rfl rfl 1 (by decide) (hT _ okT_f_AbstractStringBuilder_22) (fun _ h => h) rfl (by decide +kernel) rfl rfl (by show 1 < 4; decide) (by decide +kernel : decode cJ5_init_a7421 34 = .ok (.putfield 22, 3)) (fun H1 locs1 hP hD hS => ?_)
  refine lv_aload_n hx hb (by decide +kernel : decode cJ5_init_a7421 37 = .ok (.aload_n 0, 1)) rfl (lv_at hl 3 rfl) ?_
  refine lv_iload hx hb (by decide +kernel : decode cJ5_init_a7421 38 = .ok (.iload 4, 2)) (lv_at hl 0 rfl) ?_
  refine lv_if_ne hx hb (by decide +kernel : decode cJ5_init_a7421 40 = .ok (.ifCond .ne 9, 3)) (tgt := 49) (by decide) (fun q => absurd rfl q) fun _ => ?_
  refine lv_iload_n hx hb (by decide +kernel : decode cJ5_init_a7421 43 = .ok (.iload_n 3, 1)) rfl (lv_at hl 1 rfl) ?_
  refine va_newa (atype := .byte) (N' := u9.length + 16) (a0 := (u9.length + 16, .inl (fun _ => 0))) hx hb (hT _ okA_byte) rfl hK hP hD hS hA (fun cA => rfl) (nI_pos (by omega)) (nI_clamp (by omega)) (by show (u9.length + 16) * 1 ≤ 536870912; omega) (by show 0 + 0 + 0 + 1 ≤ 2; decide) (by show 0 + 0 + 0 + (u9.length + 16) ≤ 1802; omega) (by decide +kernel : decode cJ5_init_a7421 44 = .ok (.newarray .byte, 2)) (fun q cA H1 hK1 hP1 hD1 hS => ?_)
  have hcA := tB_eq hK1
  rw [hcA] at hP1 hD1
  refine lv_goto hx hb (by decide +kernel : decode cJ5_init_a7421 46 = .ok (.goto 7, 3)) (tgt := 53) (by decide) ?_
  refine va_put (D := D) (ci := 0) (v := .ref q) (ty := .array .byte) (C := RJ4) (T := TJ4) (N := 4) hx hb hT jt_ws4 tyJ4 tyJ4_ok nmJ4 hown hK hP1 hD1 hS 0 rfl rfl 0 (by decide) (hT _ okT_f_AbstractStringBuilder_15) (fun _ h => h) rfl (by decide +kernel) rfl rfl (by show 0 < 4; decide) (by decide +kernel : decode cJ5_init_a7421 53 = .ok (.putfield 15, 3)) (fun H2 locs2 hP hD hS => ?_)
  have hw : SBt D cB s0 sb 0 [] (u9.length + 16) H2 := ⟨q, fun _ => 0, ⟨hP, hD⟩, sb_fit0, Nat.zero_le _, fun j hj => absurd hj (Nat.not_lt_zero j)⟩
  have hwc : va_P D tCl (sbW cB sb q 0 0 (u9.length + 16) (fun _ => 0)) H2 := hP
  refine lv_aload_n hx hb (by decide +kernel : decode cJ5_init_a7421 56 = .ok (.aload_n 0, 1)) rfl (lv_at hl 3 rfl) ?_
  refine lv_aload_n hx hb (by decide +kernel : decode cJ5_init_a7421 57 = .ok (.aload_n 1, 1)) rfl (lv_at hl 4 rfl) ?_
  refine W.widen (k := 1) (n := 200) (by show 0 + 0 + 0 + 1 ≤ 1; decide) (by show 0 + 0 + 0 + (u9.length + 16) ≤ 200; omega) ?_
  refine t_use (va_runU (x := yJ5_append_cf1ce) (C := RJ4) (owner := RJ5) (Ts := TG) (As := [.ref ad]) (n := 1) (nL := 5) (rest := []) ⟨hx, hb, hml, hown, hT⟩ (jt_brS hF hE hc9 (t9 := []) (m9 := u9.length + 16) (by show 0 + u9.length ≤ 800; omega) (by omega)) (va_cwO (Ts := TG) (ws' := []) 1 hT (ovw (x := yJ5_append_cf1ce) okT_l_AbstractStringBuilder_43 okT_m_J5_append_cf1ce okT_J5_append_cf1ce_i okT_v_StringBuilder_J4_append_cf1ce okT_J4_append_cf1ce_i okT_i_java_lang_StringBuilder okT_J4_append_cf1ce_c) rfl rfl rfl okT_J5_append_cf1ce_c ⟨by decide, by decide, by decide +kernel⟩ ⟨by decide, by decide⟩) ⟨tP_blind, va_recv hK hwc (ci := 0) (q0 := 0) rfl rfl, hpre hS hw _⟩ rfl rfl hl.1 rfl (by show 2 * 0 + 0 ≤ 8; decide) (by decide +kernel : decode cJ5_init_a7421 58 = .ok (.invokevirtual 43, 3)) ⟨by decide, by decide⟩) hS (fun r H1 locs1 hv hS => ?_)
  obtain ⟨rfl, hw⟩ := hv
  have ec : capJ (([] : List Nat).length + u9.length) (u9.length + 16) = u9.length + 16 := if_pos (by show 0 + u9.length ≤ _; omega)
  rw [ec, List.nil_append] at hw
  refine lv_pop hx hb (by decide +kernel : decode cJ5_init_a7421 61 = .ok (.pop, 1)) rfl ?_
  refine W.widen (k := 2) (n := 1802) (by decide) (by decide) ?_
  exact W.vret hx hb B.returns (fun t ht _ => ⟨_, rfl, hS.F ht, rfl, by rw [ht]; exact hw⟩) hS.2.2 (by decide +kernel : decode cJ5_init_a7421 62 = .ok (.return_, 1)) B.notSynchronized
end JT18
