/-! THE TEXT: a row's beginning, copied, on -/
set_option maxRecDepth 100000 in
theorem okC_m : Cond.sameMethod "[B" "java/lang/Object" "clone" "()Ljava/lang/Object;" ∈ TG := tg 598 rfl rfl
set_option maxRecDepth 100000 in
theorem okC_n : Cond.native ⟨"java/lang/Object", "clone", "()Ljava/lang/Object;"⟩ ∈ TG := tg 599 rfl rfl
set_option maxRecDepth 100000 in
theorem okC_i : Cond.instanceMethod ⟨"java/lang/Object", "clone", "()Ljava/lang/Object;"⟩ ∈ TG := tg 600 rfl rfl
set_option maxRecDepth 100000 in
theorem okC_v : Cond.selects "[B" ⟨"[B", "clone", "()Ljava/lang/Object;"⟩ ⟨"java/lang/Object", "clone", "()Ljava/lang/Object;"⟩ ∈ TG := tg 601 rfl rfl
set_option maxRecDepth 100000 in
theorem okC_l : Cond.classLink "java/util/Arrays" 311 "[B" ∈ TG := tg 603 rfl rfl
set_option maxRecDepth 100000 in
theorem okC_c : Cond.castable "[B" "java/lang/Cloneable" ∈ lw_tbl := List.mem_of_getElem? (i := 602) rfl
section JT11
variable {l : Launch} {D : va_G} {cB : ClassId} {s0 : State} {a0 : Array Value} {sb av dO dT ad as9 : Nat} {b0 : Int32} {n m9 : Nat} {f : Nat → Int32} {Wd : Heap → Prop} {t9 u9 : List Nat} {ws : va_W}
theorem jt_cor (hF : tFx D cB s0 a0) {k0 k : Nat} (hk0 : ws[k0]? = some (av, .inl (cB, m9, .inl f))) (h1 : k ≤ m9) (h2 : m9 ≤ 1602) (hfit : sb_Fit f) : tMet l yJ7_copyOfRange_39247 cJ7_copyOfRange_39247 3 (some (.array .byte)) 2 90 1 k s0 [.ref av, .int 0, .int (nI k)] (WS D s0 ws) (fun r H => ∃ q g, r = some (.ref q) ∧ WS D s0 (ws ++ [(q, .inl (cB, k, .inl g))]) H ∧ sb_Fit g ∧ ∀ j, j < k → g j = f j) := by
  refine Met.ofW (by decide) rfl fun p e s m args below meth c s₁ B hml hP => ?_
  obtain ⟨rfl, hW, hS0, hw⟩ := hP
  have hx := B.exec
  have hb := B.bytes
  have hT := pj_at hF.1 hW #[Value.ref av, Value.int 0, Value.int (nI k)]
  have hTS := TS_at hF.1 hW #[Value.ref av, Value.int 0, Value.int (nI k)]
  have hK := va_K.moved hW.alike hF.2.1
  have hZ := (va_Z.moved hW.alike hF.2.2).kept hS0.2.1
  have hown := findClass_of_methodNamed B.named
  have hS : va_S (tA s0) s.heap s.heap [] := va_S.rf
  have hA : ∀ q : Nat, s.heap.size ≤ q → tA s0 q := fun q h => Nat.le_trans hS0.1 h
  have hpre : ∀ {H1 : Heap} {locs1 : List Loc} {Wd : Heap → Prop}, va_S (tA s0) s.heap H1 locs1 → Wd H1 → ∀ (av : List Value) (U : State), U.heap = H1 → s.WarmedH U.vm → tP s0 av Wd av.toArray U := fun hS1 hw1 av U hU hWU => ⟨rfl, State.WarmedH.trans hW hWU, by rw [hU]; exact pas_nil (pas_trans hS0 hS1), by rw [hU]; exact hw1⟩
  have hl := lv_entry [.ref av, .int 0, .int (nI k)] (n := 3) (Nat.le_of_ble_eq_true rfl)
  rw [lg_entry_eq]
  generalize (lg_sl [.ref av, .int 0, .int (nI k)] ++ List.replicate (3 - (lg_sl [.ref av, .int 0, .int (nI k)]).length) Slot.unset).toArray = ls at hl ⊢
  have hl : lv_has ls 3 [(0, .ref av), (1, .int 0), (2, .int (nI k))] := hl
  refine lv_iload_n hx hb (by decide +kernel : decode cJ7_copyOfRange_39247 0 = .ok (.iload_n 1, 1)) rfl (lv_at hl 1 rfl) ?_
  refine lv_if_ne hx hb (by decide +kernel : decode cJ7_copyOfRange_39247 1 = .ok (.ifCond .ne 9, 3)) (tgt := 10) (by decide) (fun z => absurd rfl z) fun _ => ?_
  refine lv_iload_n hx hb (by decide +kernel : decode cJ7_copyOfRange_39247 4 = .ok (.iload_n 2, 1)) rfl (lv_at hl 2 rfl) ?_
  refine lv_aload_n hx hb (by decide +kernel : decode cJ7_copyOfRange_39247 5 = .ok (.aload_n 0, 1)) rfl (lv_at hl 0 rfl) ?_
  refine va_alen (v := nI m9) hx hb hK hw.1 k0 0 hk0 rfl rfl (by decide +kernel : decode cJ7_copyOfRange_39247 6 = .ok (.arraylength, 1)) ?_
  refine lv_icmp_eq hx hb (by decide +kernel : decode cJ7_copyOfRange_39247 7 = .ok (.if_icmp .eq 10, 3)) (tgt := 17) (by decide) (fun z => ?_) (fun z => ?_)
  · have hkm : k = m9 := (nI_eq (by omega) (by omega)).mp z
    subst hkm
    have hnm : s.vm.findClass "[B" = some cB := (hK.2 0 _ rfl).2
    refine lv_aload_n hx hb (by decide +kernel : decode cJ7_copyOfRange_39247 17 = .ok (.aload_n 0, 1)) rfl (lv_at hl 0 rfl) ?_
    refine va_clone (x := (k, .inl f)) hx hb (hml.trans hl.1.symm) hown (hT _ okT_l_Arrays_310) (hT _ okC_m) (hT _ okC_n) (hT _ okC_i) (hT _ okC_v) (va_Nw.warmC hW (va_Nw.of rfl (hF.1 _ okC_c))) hK hw.1 hw.2 hS hA k0 0 hk0 rfl hnm (fun i v hv => ?_) (by show 1 ≤ 2; decide) (by show 0 + 14 ≤ 90; decide) (by show 0 + 1 ≤ 1; decide) (by show 0 + k ≤ k; omega) (by decide +kernel : decode cJ7_copyOfRange_39247 18 = .ok (.invokevirtual 310, 3)) (fun q H1 hK1 hP1 hD1 hS1 => ?_)
    · have hlt : i < k := by
        have := (Array.getElem?_eq_some_iff.mp hv).1
        rw [vp_cell_i, arrV_size] at this
        exact this
      rw [vp_cell_i, arrV_read _ _ hlt] at hv
      cases hv
      exact hfit i
    · have hq : (ws ++ [(q, .inl (cB, k, .inl f))])[ws.length]? = some (q, .inl (cB, k, .inl f)) := by
        rw [List.getElem?_append_right (Nat.le_refl _), Nat.sub_self]
        rfl
      refine va_castA hx hb hown (hT _ okC_l) hP1 ws.length hq hnm (by decide +kernel : decode cJ7_copyOfRange_39247 21 = .ok (.checkcast 311, 3)) ?_
      refine W.widen (k := 1) (n := k) (Nat.le_refl _) (by show 0 + k ≤ k; omega) ?_
      exact W.aret hx hb B.returns (Or.inr ⟨_, rfl⟩) (Or.inr ⟨_, rfl⟩) (fun t ht _ => ⟨_, rfl, hS1.F ht, _, _, rfl, by rw [ht]; exact ⟨hP1, hD1⟩, hfit, fun _ _ => rfl⟩) hS1.2.2 (by decide +kernel : decode cJ7_copyOfRange_39247 24 = .ok (.areturn, 1)) B.notSynchronized
  · refine lv_aload_n hx hb (by decide +kernel : decode cJ7_copyOfRange_39247 10 = .ok (.aload_n 0, 1)) rfl (lv_at hl 0 rfl) ?_
    refine lv_iload_n hx hb (by decide +kernel : decode cJ7_copyOfRange_39247 11 = .ok (.iload_n 1, 1)) rfl (lv_at hl 1 rfl) ?_
    refine lv_iload_n hx hb (by decide +kernel : decode cJ7_copyOfRange_39247 12 = .ok (.iload_n 2, 1)) rfl (lv_at hl 2 rfl) ?_
    refine t_use (va_runS (Ts := TG) (As := [.ref av, .int 0, .int (nI k)]) (n := 3) (nL := 3) (rest := []) ⟨hx, hb, hml, hown, hT⟩ (jt_crb hF hk0 h1 h2 hfit) ⟨pj_cb hT okT_J7_copyOfRangeByte_39247_c okT_i_java_util_Arrays okT_l_Arrays_339 ⟨by decide, by decide, by decide +kernel⟩ ⟨by show 1 + 1 ≤ 2; decide, by show 8 + (5 + 11) + 60 ≤ 90; decide⟩, hT _ okT_J7_copyOfRangeByte_39247_s⟩ ⟨tP_blind, hpre hS hw _⟩ rfl rfl hl.1 rfl (by show 2 * 0 + 0 ≤ 8; decide) (by decide +kernel : decode cJ7_copyOfRange_39247 13 = .ok (.invokestatic 339, 3)) ⟨by show 0 + 1 ≤ 1; decide, by show 0 + k ≤ k; omega⟩) hS (fun r H1 locs1 hv hS => ?_)
    obtain ⟨q, g, rfl, hw1, hg1, hg2⟩ := hv
    refine W.widen (k := 1) (n := k) (Nat.le_refl _) (by show 0 + k ≤ k; omega) ?_
    exact W.aret hx hb B.returns (Or.inr ⟨_, rfl⟩) (Or.inr ⟨_, rfl⟩) (fun t ht _ => ⟨_, rfl, hS.F ht, q, g, rfl, by rw [ht]; exact hw1, hg1, hg2⟩) hS.2.2 (by decide +kernel : decode cJ7_copyOfRange_39247 16 = .ok (.areturn, 1)) B.notSynchronized
end JT11
