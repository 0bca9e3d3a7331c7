/-! THE TEXT: the law's text, its instructions -/
/-- what the text stands on -/
def tCx (D : va_G) (cB : ClassId) (s0 : State) (a0 : Array Value) (dO dT b sn : Nat) (sf : Nat → Int32) (sL aL : Nat → Nat) : Prop := tFx D cB s0 a0 ∧ tDg dO dT s0 ∧ (va_X b sn sf s0 s0.heap ∧ b < s0.heap.size ∧ sn < 2147483648) ∧ ∀ i, i < 9 → vk_R "PinBarrelLaw" (lwI i) (lwJ i) (sL i) s0 ∧ pSt (lwT i) (sL i) (aL i) (tA s0) s0 s0.heap
def tBs (p : Program) (R : Room) (s s0 : State) (m : MethodId) (c : Code) : Prop := p.tables.exec = Jvm.exec ∧ c.code = cL_text ∧ c.maxLocals = 6 ∧ s.vm.findClass "PinBarrelLaw" = some m.cls ∧ s0.WarmedH s.vm ∧ va_S (tA s0) s0.heap s.heap [] ∧ (9 ≤ R.frames ∧ 300 ≤ R.locals) ∧ 124 ≤ R.cells ∧ 192000 ≤ R.slots
/-- a builder that holds letters -/
def SBy (D : va_G) (cB : ClassId) (s0 : State) (sb : Nat) (t : List Nat) (H : Heap) : Prop := ∃ m, m ≤ 1602 ∧ SBt D cB s0 sb 0 t m H
section TXF
variable {p : Program} {l : Launch} {e : Env} {R : Room} {s : State} {m : MethodId} {args : Array Value} {below : List Frame} {meth : Method} {c : Code} {H : Heap} {locs : List Loc} {cells slots : Nat} {Q : State → Prop} {pc : Nat} {ls : Array Slot} {rest : List Value}
variable {D : va_G} {cB : ClassId} {s0 : State} {a0 : Array Value} {sb dO dT b sn : Nat} {sf : Nat → Int32} {sL aL : Nat → Nat} {t9 : List Nat}
theorem t_pre {Wd : Heap → Prop} (hW : s0.WarmedH s.vm) (hS0 : va_S (tA s0) s0.heap s.heap []) (hS1 : va_S (tA s0) s.heap H locs) (hw1 : Wd H) (av : List Value) (U : State) (hU : U.heap = H) (hWU : s.WarmedH U.vm) : tP s0 av Wd av.toArray U := ⟨rfl, State.WarmedH.trans hW hWU, by rw [hU]; exact pas_nil (pas_trans hS0 hS1), by rw [hU]; exact hw1⟩
theorem lt_add {x y : Nat} (hx : p.tables.exec = Jvm.exec) (hb : c.code = cL_text) (hd : decode cL_text pc = .ok (.iadd, 1)) (kk : W p l e R s m args below meth c H locs cells slots Q (F0 m (pc + 1) ls (.int (nI (x + y)) :: rest))) : W p l e R s m args below meth c H locs cells slots Q (F0 m pc ls (.int (nI y) :: .int (nI x) :: rest)) := lv_iadd hx hb hd (by rw [nI_add]; exact kk)
theorem lt_rem {x y : Nat} (hx : p.tables.exec = Jvm.exec) (hb : c.code = cL_text) (h : x < 2147483648 ∧ 0 < y ∧ y < 2147483648) (hd : decode cL_text pc = .ok (.irem, 1)) (kk : W p l e R s m args below meth c H locs cells slots Q (F0 m (pc + 1) ls (.int (nI (x % y)) :: rest))) : W p l e R s m args below meth c H locs cells slots Q (F0 m pc ls (.int (nI y) :: .int (nI x) :: rest)) := lv_irem hx hb hd (nI_ne0 h.2.1 h.2.2) (by rw [nI_rem h.1 h.2.1 h.2.2]; exact kk)
theorem lt_cell (hB : tBs p R s s0 m c) (hC : tCx D cB s0 a0 dO dT b sn sf sL aL) {i : Nat} (hi : i < 1000) {Wd : Heap → Prop} (hw : Wd H) (hS : va_S (tA s0) s.heap H locs) (hls : ls.size = 6) (hr : (rest.map fun v => v.category).sum ≤ 8) (hc : cells ≤ 124) (hs : slots ≤ 192000) (hd : decode cL_text pc = .ok (.invokestatic 41, 3))
    (kk : ∀ (H1 : Heap) (locs1 : List Loc), Wd H1 → va_S (tA s0) s.heap H1 locs1 → W p l e R s m args below meth c H1 locs1 cells slots Q (F0 m (pc + 3) ls (.int (nI (cv sn sf i)) :: rest))) : W p l e R s m args below meth c H locs cells slots Q (F0 m pc ls (.int (nI i) :: .ref b :: rest)) := by
  obtain ⟨hx, hb, hml, hown, hW, hS0, h1, h2, h3⟩ := hB
  have hT := pj_at hC.1.1 hW args
  refine t_use (va_runS (Ts := TG) (As := [.ref b, .int (nI i)]) (n := 2) (nL := 6) (rest := rest) ⟨hx, hb, hml, hown, hT⟩ (jt_cell hC.1 hC.2.2.1 hi (Wd := Wd)) ⟨pj_cb hT okT_L_cell_c okT_i_PinBarrelLaw okT_l_PinBarrelLaw_41 ⟨by decide, by decide, by decide +kernel⟩ ⟨by show 1 + 1 ≤ R.frames; omega, by show 8 + (2 + 11) + 30 ≤ R.locals; omega⟩, hT _ okT_L_cell_s⟩ ⟨tP_blind, t_pre hW hS0 hS hw _⟩ rfl rfl hls rfl (by show 2 * 0 + _ ≤ 8; omega) hd ⟨by show cells + 0 ≤ R.cells; omega, by show slots + 0 ≤ R.slots; omega⟩) hS (fun r H1 locs1 hv hS => ?_)
  obtain ⟨rfl, hw⟩ := hv
  exact kk H1 locs1 hw hS
theorem lt_nm (hB : tBs p R s s0 m c) (hC : tCx D cB s0 a0 dO dT b sn sf sL aL) {k : Nat} (hk : k < 4) {Wd : Heap → Prop} (hw : Wd H) (hS : va_S (tA s0) s.heap H locs) (hls : ls.size = 6) (hr : (rest.map fun v => v.category).sum ≤ 8) (hc : cells ≤ 124) (hs : slots ≤ 192000) (hd : decode cL_text pc = .ok (.invokestatic 67, 3))
    (kk : ∀ (H1 : Heap) (locs1 : List Loc), Wd H1 → va_S (tA s0) s.heap H1 locs1 → W p l e R s m args below meth c H1 locs1 cells slots Q (F0 m (pc + 3) ls (.ref (sL (3 + k)) :: rest))) : W p l e R s m args below meth c H locs cells slots Q (F0 m pc ls (.int (nI k) :: rest)) := by
  obtain ⟨hx, hb, hml, hown, hW, hS0, h1, h2, h3⟩ := hB
  have hT := pj_at hC.1.1 hW args
  refine t_use (va_runS (Ts := TG) (As := [.int (nI k)]) (n := 1) (nL := 6) (rest := rest) ⟨hx, hb, hml, hown, hT⟩ (jt_name hC.1 hk (hC.2.2.2 (3 + k) (by omega)).1 (Wd := Wd)) ⟨pj_cb hT okT_L_name_c okT_i_PinBarrelLaw okT_l_PinBarrelLaw_67 ⟨by decide, by decide, by decide +kernel⟩ ⟨by show 0 + 1 ≤ R.frames; omega, by show 8 + (1 + 11) + 0 ≤ R.locals; omega⟩, hT _ okT_L_name_s⟩ ⟨tP_blind, t_pre hW hS0 hS hw _⟩ rfl rfl hls rfl (by show 2 * 0 + _ ≤ 8; omega) hd ⟨by show cells + 0 ≤ R.cells; omega, by show slots + 0 ≤ R.slots; omega⟩) hS (fun r H1 locs1 hv hS => ?_)
  obtain ⟨rfl, hw⟩ := hv
  exact kk H1 locs1 hw hS
theorem lt_I (hB : tBs p R s s0 m c) (hC : tCx D cB s0 a0 dO dT b sn sf sL aL) {v : Nat} (hv : v < 100) (hw : SBy D cB s0 sb t9 H) {x9 : Nat} (h9 : t9.length ≤ x9) (g9 : x9 < 600) (hS : va_S (tA s0) s.heap H locs) (hls : ls.size = 6) (hr : (rest.map fun v => v.category).sum ≤ 8) (hc : cells + 1 ≤ 124) (hs : slots + 1602 ≤ 192000) (hd : decode cL_text pc = .ok (.invokevirtual 54, 3))
    (kk : ∀ (H1 : Heap) (locs1 : List Loc), SBy D cB s0 sb (t9 ++ nu v) H1 → (t9 ++ nu v).length ≤ x9 + 2 → va_S (tA s0) s.heap H1 locs1 → W p l e R s m args below meth c H1 locs1 (cells + 1) (slots + 1602) Q (F0 m (pc + 3) ls (.ref sb :: rest))) : W p l e R s m args below meth c H locs cells slots Q (F0 m pc ls (.int (nI v) :: .ref sb :: rest)) := by
  obtain ⟨hx, hb, hml, hown, hW, hS0, h1, h2, h3⟩ := hB
  obtain ⟨m9, hm9, hw⟩ := hw
  have hw9 := hw
  obtain ⟨av, f, hwc, -⟩ := hw9
  have hK := va_K.moved hW.alike hC.1.2.1
  have hT := pj_at hC.1.1 hW args
  have hn := nu_len v
  refine t_use (va_runV (C := RJ4) (Ts := TG) (As := [.int (nI v)]) (n := 1) (nL := 6) (rest := rest) ⟨hx, hb, hml, hown, hT⟩ (jt_sbI hC.1 hC.2.1 hv (by omega) hm9 (sb := sb) (b0 := 0) (t9 := t9)) ⟨pj_cb hT okT_J4_append_bf812_c okT_i_java_lang_StringBuilder okT_l_PinBarrelLaw_54 ⟨by decide, by decide, by decide +kernel⟩ ⟨by show 5 + 1 ≤ R.frames; omega, by show 8 + (2 + 11) + 170 ≤ R.locals; omega⟩, hT _ okT_J4_append_bf812_i, hT _ okT_v_StringBuilder_J4_append_bf812⟩ ⟨tP_blind, va_recv hK hwc.1 (ci := 0) (q0 := 0) rfl rfl, t_pre hW hS0 hS hw _⟩ rfl rfl hls rfl (by show 2 * 0 + _ ≤ 8; omega) hd ⟨by show cells + 1 ≤ R.cells; omega, by show slots + 1602 ≤ R.slots; omega⟩) hS (fun r H1 locs1 hv hS => ?_)
  obtain ⟨rfl, hw⟩ := hv
  exact kk H1 locs1 ⟨_, capJ_le (by omega) hm9, hw⟩ (by rw [List.length_append]; omega) hS
theorem lt_C (hB : tBs p R s s0 m c) (hC : tCx D cB s0 a0 dO dT b sn sf sL aL) {v : Nat} (hv : v < 128) (hw : SBy D cB s0 sb t9 H) {x9 : Nat} (h9 : t9.length ≤ x9) (g9 : x9 < 600) (hS : va_S (tA s0) s.heap H locs) (hls : ls.size = 6) (hr : (rest.map fun v => v.category).sum ≤ 8) (hc : cells + 1 ≤ 124) (hs : slots + 1602 ≤ 192000) (hd : decode cL_text pc = .ok (.invokevirtual 57, 3))
    (kk : ∀ (H1 : Heap) (locs1 : List Loc), SBy D cB s0 sb (t9 ++ [v]) H1 → (t9 ++ [v]).length ≤ x9 + 1 → va_S (tA s0) s.heap H1 locs1 → W p l e R s m args below meth c H1 locs1 (cells + 1) (slots + 1602) Q (F0 m (pc + 3) ls (.ref sb :: rest))) : W p l e R s m args below meth c H locs cells slots Q (F0 m pc ls (.int (nI v) :: .ref sb :: rest)) := by
  obtain ⟨hx, hb, hml, hown, hW, hS0, h1, h2, h3⟩ := hB
  obtain ⟨m9, hm9, hw⟩ := hw
  have hw9 := hw
  obtain ⟨av, f, hwc, -⟩ := hw9
  have hK := va_K.moved hW.alike hC.1.2.1
  have hT := pj_at hC.1.1 hW args
  refine t_use (va_runV (C := RJ4) (Ts := TG) (As := [.int (nI v)]) (n := 1) (nL := 6) (rest := rest) ⟨hx, hb, hml, hown, hT⟩ (jt_sbC hC.1 hv (by omega) hm9 (sb := sb) (b0 := 0) (t9 := t9)) ⟨pj_cb hT okT_J4_append_cf468_c okT_i_java_lang_StringBuilder okT_l_PinBarrelLaw_57 ⟨by decide, by decide, by decide +kernel⟩ ⟨by show 5 + 1 ≤ R.frames; omega, by show 8 + (2 + 11) + 150 ≤ R.locals; omega⟩, hT _ okT_J4_append_cf468_i, hT _ okT_v_StringBuilder_J4_append_cf468⟩ ⟨tP_blind, va_recv hK hwc.1 (ci := 0) (q0 := 0) rfl rfl, t_pre hW hS0 hS hw _⟩ rfl rfl hls rfl (by show 2 * 0 + _ ≤ 8; omega) hd ⟨by show cells + 1 ≤ R.cells; omega, by show slots + 1602 ≤ R.slots; omega⟩) hS (fun r H1 locs1 hv hS => ?_)
  obtain ⟨rfl, hw⟩ := hv
  exact kk H1 locs1 ⟨_, capJ_le (by omega) hm9, hw⟩ (by rw [List.length_append]; exact Nat.add_le_add_right h9 1) hS
theorem lt_S (hB : tBs p R s s0 m c) (hC : tCx D cB s0 a0 dO dT b sn sf sL aL) {i : Nat} (hi : i < 9) (hw : SBy D cB s0 sb t9 H) {x9 : Nat} (h9 : t9.length ≤ x9) (g9 : x9 < 600) (hS : va_S (tA s0) s.heap H locs) (hls : ls.size = 6) (hr : (rest.map fun v => v.category).sum ≤ 8) (hc : cells + 1 ≤ 124) (hs : slots + 1602 ≤ 192000) (hd : decode cL_text pc = .ok (.invokevirtual 62, 3))
    (kk : ∀ (H1 : Heap) (locs1 : List Loc), SBy D cB s0 sb (t9 ++ lwT i) H1 → (t9 ++ lwT i).length ≤ x9 + 7 → va_S (tA s0) s.heap H1 locs1 → W p l e R s m args below meth c H1 locs1 (cells + 1) (slots + 1602) Q (F0 m (pc + 3) ls (.ref sb :: rest))) : W p l e R s m args below meth c H locs cells slots Q (F0 m pc ls (.ref (sL i) :: .ref sb :: rest)) := by
  obtain ⟨hx, hb, hml, hown, hW, hS0, h1, h2, h3⟩ := hB
  obtain ⟨m9, hm9, hw⟩ := hw
  have hw9 := hw
  obtain ⟨av, f, hwc, -⟩ := hw9
  have hK := va_K.moved hW.alike hC.1.2.1
  have hT := pj_at hC.1.1 hW args
  have hn := lwT_ok i hi
  refine t_use (va_runV (C := RJ4) (Ts := TG) (As := [.ref (sL i)]) (n := 1) (nL := 6) (rest := rest) ⟨hx, hb, hml, hown, hT⟩ (jt_sbS hC.1 (hC.2.2.2 i hi).2 hn.1 (by omega) hm9 (sb := sb) (b0 := 0) (t9 := t9)) ⟨pj_cb hT okT_J4_append_15ec4_c okT_i_java_lang_StringBuilder okT_l_PinBarrelLaw_62 ⟨by decide, by decide, by decide +kernel⟩ ⟨by show 5 + 1 ≤ R.frames; omega, by show 8 + (2 + 11) + 170 ≤ R.locals; omega⟩, hT _ okT_J4_append_15ec4_i, hT _ okT_v_StringBuilder_J4_append_15ec4⟩ ⟨tP_blind, va_recv hK hwc.1 (ci := 0) (q0 := 0) rfl rfl, t_pre hW hS0 hS hw _⟩ rfl rfl hls rfl (by show 2 * 0 + _ ≤ 8; omega) hd ⟨by show cells + 1 ≤ R.cells; omega, by show slots + 1602 ≤ R.slots; omega⟩) hS (fun r H1 locs1 hv hS => ?_)
  obtain ⟨rfl, hw⟩ := hv
  exact kk H1 locs1 ⟨_, capJ_le (by omega) hm9, hw⟩ (by rw [List.length_append]; omega) hS
end TXF
