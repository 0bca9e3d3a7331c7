/-! THE TEXT: the builder's length -/
section JT13
variable {l : Launch} {D : va_G} {cB : ClassId} {s0 : State} {a0 : Array Value} {sb av dO dT ad as9 : Nat} {b0 : Int32} {n m9 : Nat} {f : Nat → Int32} {Wd : Heap → Prop} {t9 u9 : List Nat} {ws : va_W}
theorem jt_len4 (hF : tFx D cB s0 a0) {k1 : Nat} {x : Int32} (hk1 : ws[k1]? = some (sb, .inr (0, [.ref av, .int 0, .int b0, .int x]))) : tMet l yJ4_length_8abf5 cJ4_length_8abf5 1 (some .int) 1 20 0 0 s0 [.ref sb] (WS D s0 ws) (fun v H => v = some (.int x) ∧ WS D s0 ws H) := by
  refine Met.ofW (by decide) rfl fun p e s m args below meth c s₁ B hml hP => ?_
  obtain ⟨rfl, hW, hS0, hw⟩ := hP
  have hx := B.exec
  have hb := B.bytes
  have hT := pj_at hF.1 hW #[Value.ref sb]
  have hTS := TS_at hF.1 hW #[Value.ref sb]
  have hK := va_K.moved hW.alike hF.2.1
  have hZ := (va_Z.moved hW.alike hF.2.2).kept hS0.2.1
  have hown := findClass_of_methodNamed B.named
  have hS : va_S (tA s0) s.heap s.heap [] := va_S.rf
  have hA : ∀ q : Nat, s.heap.size ≤ q → tA s0 q := fun q h => Nat.le_trans hS0.1 h
  have hpre : ∀ {H1 : Heap} {locs1 : List Loc} {Wd : Heap → Prop}, va_S (tA s0) s.heap H1 locs1 → Wd H1 → ∀ (av : List Value) (U : State), U.heap = H1 → s.WarmedH U.vm → tP s0 av Wd av.toArray U := fun hS1 hw1 av U hU hWU => ⟨rfl, State.WarmedH.trans hW hWU, by rw [hU]; exact pas_nil (pas_trans hS0 hS1), by rw [hU]; exact hw1⟩
  have hl := lv_entry [.ref sb] (n := 1) (Nat.le_of_ble_eq_true rfl)
  rw [lg_entry_eq]
  generalize (lg_sl [.ref sb] ++ List.replicate (1 - (lg_sl [.ref sb]).length) Slot.unset).toArray = ls at hl ⊢
  have hl : lv_has ls 1 [(0, .ref sb)] := hl
  refine lv_aload_n hx hb (by decide +kernel : decode cJ4_length_8abf5 0 = .ok (.aload_n 0, 1)) rfl (lv_at hl 0 rfl) ?_
  refine t_use (va_runSU (C := RJ4) (Ts := TG) (As := []) (n := 0) (nL := 1) (rest := []) (hK.1 0 _ rfl).2 ⟨hx, hb, hml, hown, hT⟩ (jt_len5 hF hk1) (va_cwSU (Ts := TG) (ws' := []) 0 hT (suw okT_l_StringBuilder_343 okT_m_J5_length_8abf5 okT_u_StringBuilder okT_J5_length_8abf5_i okT_i_java_lang_AbstractStringBuilder okT_J5_length_8abf5_c) rfl rfl rfl ⟨by decide, by decide +kernel⟩ ⟨by decide, by decide⟩) ⟨tP_blind, va_recv hK hw.1 (ci := 0) (q0 := k1) rfl hk1, hpre hS hw _⟩ rfl rfl hl.1 rfl (by show 2 * 0 + 0 ≤ 8; decide) (by decide +kernel : decode cJ4_length_8abf5 1 = .ok (.invokespecial 343, 3)) ⟨by decide, by decide⟩) hS (fun r H1 locs1 hv hS => ?_)
  obtain ⟨rfl, hw⟩ := hv
  exact W.iret hx hb B.returns (fun t ht _ => ⟨_, rfl, hS.F ht, rfl, by rw [ht]; exact hw⟩) hS.2.2 (by decide +kernel : decode cJ4_length_8abf5 4 = .ok (.ireturn, 1)) B.notSynchronized
end JT13
