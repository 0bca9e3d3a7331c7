/-! THE TEXT: toString -/
set_option maxRecDepth 100000 in
theorem okC_18 : Cond.classLink "java/lang/StringBuilder" 18 "java/lang/String" ∈ TG := tg 726 rfl rfl
section JT16
variable {l : Launch} {D : va_G} {cB : ClassId} {s0 : State} {a0 : Array Value} {sb av dO dT ad as9 st : Nat} {b0 : Int32} {n m9 : Nat} {f : Nat → Int32} {Wd : Heap → Prop} {t9 u9 : List Nat} {ws : va_W}
/-- a new string and its letters -/
def STt (D : va_G) (cB : ClassId) (s0 : State) (t : List Nat) (st q : Nat) (H : Heap) : Prop := ∃ g, WS D s0 [(st, .inr (1, [.ref q, .int 0, .int 0, .int 0])), (q, .inl (cB, t.length, .inl g))] H ∧ ∀ j, j < t.length → g j = sb_b (t.getD j 0)
theorem jt_tos (hF : tFx D cB s0 a0) (h1 : t9.length ≤ 800) (h2 : m9 ≤ 1602) : tMet l yJ4_toString_0e30d cJ4_toString_0e30d 1 (some (.object "java/lang/String")) 5 190 2 804 s0 [.ref sb] (SBt D cB s0 sb b0 t9 m9) (fun r H => ∃ st q, r = some (.ref st) ∧ STt D cB s0 t9 st q H) := by
  refine Met.ofW (by decide) rfl fun p e s m args below meth c s₁ B hml hP => ?_
  obtain ⟨rfl, hW, hS0, hw⟩ := hP
  have hx := B.exec
  have hb := B.bytes
  have hT := pj_at hF.1 hW #[Value.ref sb]
  have hTS := TS_at hF.1 hW #[Value.ref sb]
  have hK := va_K.moved hW.alike hF.2.1
  have hZ := (va_Z.moved hW.alike hF.2.2).kept hS0.2.1
  have hown := findClass_of_methodNamed B.named
  have hS : va_S (tA s0) s.heap s.heap [] := va_S.rf
  have hA : ∀ q : Nat, s.heap.size ≤ q → tA s0 q := fun q h => Nat.le_trans hS0.1 h
  have hpre : ∀ {H1 : Heap} {locs1 : List Loc} {Wd : Heap → Prop}, va_S (tA s0) s.heap H1 locs1 → Wd H1 → ∀ (av : List Value) (U : State), U.heap = H1 → s.WarmedH U.vm → tP s0 av Wd av.toArray U := fun hS1 hw1 av U hU hWU => ⟨rfl, State.WarmedH.trans hW hWU, by rw [hU]; exact pas_nil (pas_trans hS0 hS1), by rw [hU]; exact hw1⟩
  have hl := lv_entry [.ref sb] (n := 1) (Nat.le_of_ble_eq_true rfl)
  rw [lg_entry_eq]
  generalize (lg_sl [.ref sb] ++ List.replicate (1 - (lg_sl [.ref sb]).length) Slot.unset).toArray = ls at hl ⊢
  have hl : lv_has ls 1 [(0, .ref sb)] := hl
  obtain ⟨av, f, hw, hfit, hle, hf⟩ := hw
  refine va_new (ci := 1) (fs := [.null, .int 0, .int 0, .int 0]) (C := RJ0) (T := TJ0) (N := 4) hx hb hT jt_ws0 tyJ0 tyJ0_ok hown (hT _ okC_18) (hT _ okT_n_String) (hT _ okK_iS) hK hw.1 hw.2 hS hA rfl (fun j hj => by rcases (show j = 0 ∨ j = 1 ∨ j = 2 ∨ j = 3 by omega) with rfl | rfl | rfl | rfl <;> rfl) (by show 0 + 1 ≤ 2; decide) (by show 0 + 4 ≤ 804; decide) (by decide +kernel : decode cJ4_toString_0e30d 0 = .ok (.new 18, 3)) (fun st H hP hD hS => ?_)
  have hw : WS D s0 (stW cB sb av b0 (nI t9.length) m9 f st .null) H := ⟨hP, hD⟩
  refine W.widen (k := 1) (n := 4) (by show 0 + 1 ≤ 1; decide) (by show 0 + 4 ≤ 4; decide) ?_
  refine lv_dup hx hb (by decide +kernel : decode cJ4_toString_0e30d 3 = .ok (.dup, 1)) rfl ?_
  refine lv_aload_n hx hb (by decide +kernel : decode cJ4_toString_0e30d 4 = .ok (.aload_n 0, 1)) rfl (lv_at hl 0 rfl) ?_
  refine t_use (va_runI (Ts := TG) (As := [.ref sb]) (n := 1) (nL := 1) (rest := [.ref st]) ⟨hx, hb, hml, hown, hT⟩ (jt_si1 hF (st := st) (sb := sb) (av := av) (b0 := b0) hle h2 hfit) ⟨pj_cb hT okT_J0_init_81219_c okK_iS okT_l_StringBuilder_137 ⟨by decide, by decide, by decide +kernel⟩ ⟨by show 4 + 1 ≤ 5; decide, by show 8 + (2 + 11) + 160 ≤ 190; decide⟩, rfl, hT _ okT_J0_init_81219_i⟩ ⟨tP_blind, hpre hS hw [.ref st, .ref sb]⟩ rfl rfl hl.1 rfl (by show 2 * 0 + (1 + 0) ≤ 8; decide) (by decide +kernel : decode cJ4_toString_0e30d 5 = .ok (.invokespecial 137, 3)) ⟨by show 1 + 1 ≤ 2; decide, by show 4 + t9.length ≤ 804; omega⟩) hS (fun r H1 locs1 hv hS => ?_)
  obtain ⟨rfl, q, g, hw, hg1, hg2⟩ := hv
  refine W.widen (k := 2) (n := 804) (by show 1 + 1 ≤ 2; decide) (by show 4 + t9.length ≤ 804; omega) ?_
  have hfin : STt D cB s0 t9 st q H1 := ⟨g, ⟨hw.1.sub [2, 3] rfl, hw.2.sub [2, 3] (by decide) rfl⟩, fun j hj => by rw [hg2 j hj, hf j hj]⟩
  exact W.aret hx hb B.returns (Or.inl ⟨_, rfl⟩) (Or.inr ⟨_, rfl⟩) (fun t ht _ => ⟨_, rfl, hS.F ht, st, q, rfl, by rw [ht]; exact hfin⟩) hS.2.2 (by decide +kernel : decode cJ4_toString_0e30d 8 = .ok (.areturn, 1)) B.notSynchronized
end JT16
