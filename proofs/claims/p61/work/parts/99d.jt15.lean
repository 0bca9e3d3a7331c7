/-! THE TEXT: the string is made, on -/
section JT15
variable {l : Launch} {D : va_G} {cB : ClassId} {s0 : State} {a0 : Array Value} {sb av dO dT ad as9 st : Nat} {b0 : Int32} {n m9 : Nat} {f : Nat → Int32} {Wd : Heap → Prop} {t9 u9 : List Nat} {ws : va_W}
theorem jt_si1 (hF : tFx D cB s0 a0) {k : Nat} (h1 : k ≤ m9) (h2 : m9 ≤ 1602) (hfit : sb_Fit f) : tMet l yJ0_init_81219 cJ0_init_81219 2 none 4 160 1 k s0 [.ref st, .ref sb] (WS D s0 (stW cB sb av b0 (nI k) m9 f st .null)) (fun r H => r = none ∧ ∃ q g, WS D s0 (stW cB sb av b0 (nI k) m9 f st (.ref q) ++ [(q, .inl (cB, k, .inl g))]) H ∧ sb_Fit g ∧ ∀ j, j < k → g j = f j) := by
  refine Met.ofW (by decide) rfl fun p e s m args below meth c s₁ B hml hP => ?_
  obtain ⟨rfl, hW, hS0, hw⟩ := hP
  have hx := B.exec
  have hb := B.bytes
  have hT := pj_at hF.1 hW #[Value.ref st, Value.ref sb]
  have hTS := TS_at hF.1 hW #[Value.ref st, Value.ref sb]
  have hK := va_K.moved hW.alike hF.2.1
  have hZ := (va_Z.moved hW.alike hF.2.2).kept hS0.2.1
  have hown := findClass_of_methodNamed B.named
  have hS : va_S (tA s0) s.heap s.heap [] := va_S.rf
  have hA : ∀ q : Nat, s.heap.size ≤ q → tA s0 q := fun q h => Nat.le_trans hS0.1 h
  have hpre : ∀ {H1 : Heap} {locs1 : List Loc} {Wd : Heap → Prop}, va_S (tA s0) s.heap H1 locs1 → Wd H1 → ∀ (av : List Value) (U : State), U.heap = H1 → s.WarmedH U.vm → tP s0 av Wd av.toArray U := fun hS1 hw1 av U hU hWU => ⟨rfl, State.WarmedH.trans hW hWU, by rw [hU]; exact pas_nil (pas_trans hS0 hS1), by rw [hU]; exact hw1⟩
  have hl := lv_entry [.ref st, .ref sb] (n := 2) (Nat.le_of_ble_eq_true rfl)
  rw [lg_entry_eq]
  generalize (lg_sl [.ref st, .ref sb] ++ List.replicate (2 - (lg_sl [.ref st, .ref sb]).length) Slot.unset).toArray = ls at hl ⊢
  have hl : lv_has ls 2 [(0, .ref st), (1, .ref sb)] := hl
  refine lv_aload_n hx hb (by decide +kernel : decode cJ0_init_81219 0 = .ok (.aload_n 0, 1)) rfl (lv_at hl 0 rfl) ?_
  refine lv_aload_n hx hb (by decide +kernel : decode cJ0_init_81219 1 = .ok (.aload_n 1, 1)) rfl (lv_at hl 1 rfl) ?_
  refine lv_null hx hb (by decide +kernel : decode cJ0_init_81219 2 = .ok (.aconst_null, 1)) ?_
  refine t_use (va_runI (Ts := TG) (As := [.ref sb, .null]) (n := 2) (nL := 2) (rest := []) ⟨hx, hb, hml, hown, hT⟩ (jt_si2 hF (st := st) (sb := sb) (av := av) (b0 := b0) h1 h2 hfit) ⟨pj_cb hT okT_J0_init_db425_c okK_iS okT_l_String_489 ⟨by decide, by decide, by decide +kernel⟩ ⟨by show 3 + 1 ≤ 4; decide, by show 8 + (5 + 11) + 130 ≤ 160; decide⟩, rfl, hT _ okT_J0_init_db425_i⟩ ⟨tP_blind, hpre hS hw [.ref st, .ref sb, .null]⟩ rfl rfl hl.1 rfl (by show 2 * 0 + 0 ≤ 8; decide) (by decide +kernel : decode cJ0_init_81219 3 = .ok (.invokespecial 489, 3)) ⟨by show 0 + 1 ≤ 1; decide, by show 0 + k ≤ k; omega⟩) hS (fun r H1 locs1 hv hS => ?_)
  obtain ⟨rfl, q, g, hw, hg1, hg2⟩ := hv
  refine W.widen (k := 1) (n := k) (by show 0 + 1 ≤ 1; decide) (by show 0 + k ≤ k; omega) ?_
  exact W.vret hx hb B.returns (fun t ht _ => ⟨_, rfl, hS.F ht, rfl, q, g, by rw [ht]; exact hw, hg1, hg2⟩) hS.2.2 (by decide +kernel : decode cJ0_init_81219 6 = .ok (.return_, 1)) B.notSynchronized
end JT15
