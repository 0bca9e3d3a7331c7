/-! THE TEXT: the bridge of append(String) -/
section JT17
variable {l : Launch} {D : va_G} {cB : ClassId} {s0 : State} {a0 : Array Value} {sb av dO dT ad as9 st : Nat} {b0 : Int32} {n m9 : Nat} {f : Nat → Int32} {Wd : Heap → Prop} {t9 u9 : List Nat} {ws : va_W}
theorem jt_brS (hF : tFx D cB s0 a0) (hE : pSt u9 ad as9 (tA s0) s0 s0.heap) (hc9 : pch u9) (h1 : t9.length + u9.length ≤ 800) (h2 : m9 ≤ 1602) : tMet l yJ4_append_cf1ce cJ4_append_cf1ce 2 (some (.object "java/lang/AbstractStringBuilder")) 6 200 1 1602 s0 [.ref sb, .ref ad] (SBt D cB s0 sb b0 t9 m9) (fun r H => r = some (.ref sb) ∧ SBt D cB s0 sb b0 (t9 ++ u9) (capJ (t9.length + u9.length) m9) H) := by
  refine Met.ofW (by decide) rfl fun p e s m args below meth c s₁ B hml hP => ?_
  obtain ⟨rfl, hW, hS0, hw⟩ := hP
  have hx := B.exec
  have hb := B.bytes
  have hT := pj_at hF.1 hW #[Value.ref sb, Value.ref ad]
  have hTS := TS_at hF.1 hW #[Value.ref sb, Value.ref ad]
  have hK := va_K.moved hW.alike hF.2.1
  have hZ := (va_Z.moved hW.alike hF.2.2).kept hS0.2.1
  have hown := findClass_of_methodNamed B.named
  have hS : va_S (tA s0) s.heap s.heap [] := va_S.rf
  have hA : ∀ q : Nat, s.heap.size ≤ q → tA s0 q := fun q h => Nat.le_trans hS0.1 h
  have hpre : ∀ {H1 : Heap} {locs1 : List Loc} {Wd : Heap → Prop}, va_S (tA s0) s.heap H1 locs1 → Wd H1 → ∀ (av : List Value) (U : State), U.heap = H1 → s.WarmedH U.vm → tP s0 av Wd av.toArray U := fun hS1 hw1 av U hU hWU => ⟨rfl, State.WarmedH.trans hW hWU, by rw [hU]; exact pas_nil (pas_trans hS0 hS1), by rw [hU]; exact hw1⟩
  have hl := lv_entry [.ref sb, .ref ad] (n := 2) (Nat.le_of_ble_eq_true rfl)
  rw [lg_entry_eq]
  generalize (lg_sl [.ref sb, .ref ad] ++ List.replicate (2 - (lg_sl [.ref sb, .ref ad]).length) Slot.unset).toArray = ls at hl ⊢
  have hl : lv_has ls 2 [(0, .ref sb), (1, .ref ad)] := hl
  have hw9 := hw
  obtain ⟨av, f, hwc, hfit, hle, hf⟩ := hw
  refine lv_aload_n hx hb (by decide +kernel : decode cJ4_append_cf1ce 0 = .ok (.aload_n 0, 1)) rfl (lv_at hl 0 rfl) ?_
  refine lv_aload_n hx hb (by decide +kernel : decode cJ4_append_cf1ce 1 = .ok (.aload_n 1, 1)) rfl (lv_at hl 1 rfl) ?_
  refine t_use (va_runV (C := RJ4) (Ts := TG) (As := [.ref ad]) (n := 1) (nL := 2) (rest := []) ⟨hx, hb, hml, hown, hT⟩ (jt_sbS hF hE hc9 h1 h2) ⟨pj_cb hT okT_J4_append_15ec4_c okT_i_java_lang_StringBuilder okT_l_StringBuilder_23 ⟨by decide, by decide, by decide +kernel⟩ ⟨by decide, by decide⟩, hT _ okT_J4_append_15ec4_i, hT _ okT_v_StringBuilder_J4_append_15ec4⟩ ⟨tP_blind, va_recv hK hwc.1 (ci := 0) (q0 := 0) rfl rfl, hpre hS hw9 _⟩ rfl rfl hl.1 rfl (by show 2 * 0 + 0 ≤ 8; decide) (by decide +kernel : decode cJ4_append_cf1ce 2 = .ok (.invokevirtual 23, 3)) ⟨by decide, by decide⟩) hS (fun r H1 locs1 hv hS => ?_)
  obtain ⟨rfl, hw⟩ := hv
  refine W.widen (k := 1) (n := 1602) (by decide) (by decide) ?_
  exact W.aret hx hb B.returns (Or.inl ⟨_, rfl⟩) (Or.inr ⟨_, rfl⟩) (fun t ht _ => ⟨_, rfl, hS.F ht, rfl, by rw [ht]; exact hw⟩) hS.2.2 (by decide +kernel : decode cJ4_append_cf1ce 5 = .ok (.areturn, 1)) B.notSynchronized
end JT17
