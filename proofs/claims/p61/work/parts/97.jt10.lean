/-! THE TEXT: a row's beginning, copied -/
abbrev WS (D : va_G) (s0 : State) (ws : va_W) (H : Heap) : Prop := va_P D tCl ws H ∧ va_D (tA s0) ws
abbrev tMet0 (l : Launch) (y : MethodName) (code : ByteArray) (maxL : Nat) (ret : Option FieldType) (fr lo : Nat) (s0 : State) (av : List Value) (Wd : Heap → Prop) (K : Option Value → Heap → Prop) : Prop :=
  Met l y [Cond.code y code maxL ret] { frames := fr, locals := lo, cells := 0, slots := 0 } (tP s0 av Wd) (tQ s0 K) 0 0 (fun _ => False)
section TCALL0
variable {p : Program} {l : Launch} {e : Env} {R : Room} {s s0 : State} {m : MethodId} {args : Array Value} {below : List Frame} {meth : Method} {c : Code} {H : Heap} {locs : List Loc} {cells slots : Nat} {Q : State → Prop} {pc : Nat} {ls : Array Slot}
/-- a call that writes nothing -/
theorem t_use0 {K : Option Value → Heap → Prop} {a : Array Value} {rest st0 : List Value} (hr : va_Run p l e R s m args below meth c H locs cells slots 0 0 (F0 m pc ls st0) rest (tQ s0 K a) (fun _ => False))
    (kk : ∀ (v : Option Value) (H1 : Heap), K v H1 → W p l e R s m args below meth c H1 locs cells slots Q (F0 m (pc + 3) ls (v.toList ++ rest))) :
    W p l e R s m args below meth c H locs cells slots Q (F0 m pc ls st0) := by
  intro T hT X
  obtain ⟨v9, st₀, t, T', L, h0, X', hL, e1, e2, ⟨v, hv, hF, hK⟩, st⟩ := hr T hT X
  cases hv
  have hn : L = [] := by
    cases L with
    | nil => rfl
    | cons q L => exact (hL q List.mem_cons_self).elim
  rw [hn, List.append_nil] at X'
  obtain ⟨t2, a1, b1⟩ := kk v9 T'.heap (by rw [e1]; exact hK) T' rfl X'
  exact ⟨t2, st t2 a1, b1⟩
end TCALL0
section JT10
variable {l : Launch} {D : va_G} {cB : ClassId} {s0 : State} {a0 : Array Value} {sb av dO dT ad as9 : Nat} {b0 : Int32} {n m9 : Nat} {f : Nat → Int32} {Wd : Heap → Prop} {t9 u9 : List Nat} {ws : va_W}
theorem ws_more {s : State} {H1 : Heap} {y : Nat × va_E} {locs : List Loc} (h0 : va_S (tA s0) s0.heap s.heap []) (hw : WS D s0 ws s.heap) (hS : va_S (tA s) s.heap H1 locs) (hP : va_P D tCl [y] H1) (hD : va_D (tA s) [y]) : WS D s0 (ws ++ [y]) H1 := by
  have hlt : ∀ (i : Nat) (p : Nat × va_E), ws[i]? = some p → p.1 < s.heap.size := fun i p hp => (hw.1 i p hp).lt
  refine ⟨(hw.1.kept (fun i p hp => hS.2.1 p.1 (hlt i p hp) (Nat.not_le.mpr (hlt i p hp)))).app hP, hw.2.app ⟨hD.1, fun i p hp => Nat.le_trans h0.1 (hD.2 i p hp)⟩ (fun i j p p' hp hp' e => ?_)⟩
  have h1 := hlt i p hp
  have h2 : tA s p'.1 := hD.2 j p' hp'
  have h2 : s.heap.size ≤ p'.1 := h2
  omega
theorem jt_ckl (hF : tFx D cB s0 a0) {k : Nat} (hk : k < 65536) : tMet0 l yJ7_checkLength_df160 cJ7_checkLength_df160 2 none 0 0 s0 [.int 0, .int (nI k)] Wd (fun r H => r = none ∧ Wd H) := by
  refine Met.ofW (by decide) rfl fun p e s m args below meth c s₁ B hml hP => ?_
  obtain ⟨rfl, hW, hS0, hw⟩ := hP
  have hx := B.exec
  have hb := B.bytes
  have hT := pj_at hF.1 hW #[Value.int 0, Value.int (nI k)]
  have hTS := TS_at hF.1 hW #[Value.int 0, Value.int (nI k)]
  have hK := va_K.moved hW.alike hF.2.1
  have hZ := (va_Z.moved hW.alike hF.2.2).kept hS0.2.1
  have hown := findClass_of_methodNamed B.named
  have hS : va_S (tA s0) s.heap s.heap [] := va_S.rf
  have hA : ∀ q : Nat, s.heap.size ≤ q → tA s0 q := fun q h => Nat.le_trans hS0.1 h
  have hpre : ∀ {H1 : Heap} {locs1 : List Loc} {Wd : Heap → Prop}, va_S (tA s0) s.heap H1 locs1 → Wd H1 → ∀ (av : List Value) (U : State), U.heap = H1 → s.WarmedH U.vm → tP s0 av Wd av.toArray U := fun hS1 hw1 av U hU hWU => ⟨rfl, State.WarmedH.trans hW hWU, by rw [hU]; exact pas_nil (pas_trans hS0 hS1), by rw [hU]; exact hw1⟩
  have hl := lv_entry [.int 0, .int (nI k)] (n := 2) (Nat.le_of_ble_eq_true rfl)
  rw [lg_entry_eq]
  generalize (lg_sl [.int 0, .int (nI k)] ++ List.replicate (2 - (lg_sl [.int 0, .int (nI k)]).length) Slot.unset).toArray = ls at hl ⊢
  have hl : lv_has ls 2 [(0, .int 0), (1, .int (nI k))] := hl
  refine lv_iload_n hx hb (by decide +kernel : decode cJ7_checkLength_df160 0 = .ok (.iload_n 1, 1)) rfl (lv_at hl 1 rfl) ?_
  refine lv_iload_n hx hb (by decide +kernel : decode cJ7_checkLength_df160 1 = .ok (.iload_n 0, 1)) rfl (lv_at hl 0 rfl) ?_
  refine lv_icmp_ge hx hb (by decide +kernel : decode cJ7_checkLength_df160 2 = .ok (.if_icmp .ge 35, 3)) (tgt := 37) (by decide) (fun _ => ?_) (fun z => absurd (nI_pos' (by omega)) z)
  exact W.vret hx hb B.returns (fun t ht _ => ⟨_, rfl, hS.F ht, rfl, by rw [ht]; exact hw⟩) (fun q h => by cases h) (by decide +kernel : decode cJ7_checkLength_df160 37 = .ok (.return_, 1)) B.notSynchronized
theorem jt_crb (hF : tFx D cB s0 a0) {k0 k : Nat} (hk0 : ws[k0]? = some (av, .inl (cB, m9, .inl f))) (h1 : k ≤ m9) (h2 : m9 ≤ 1602) (hfit : sb_Fit f) : tMet l yJ7_copyOfRangeByte_39247 cJ7_copyOfRangeByte_39247 5 (some (.array .byte)) 1 60 1 k s0 [.ref av, .int 0, .int (nI k)] (WS D s0 ws) (fun r H => ∃ q g, r = some (.ref q) ∧ WS D s0 (ws ++ [(q, .inl (cB, k, .inl g))]) H ∧ sb_Fit g ∧ ∀ j, j < k → g j = f j) := by
  refine Met.ofW (by decide) rfl fun p e s m args below meth c s₁ B hml hP => ?_
  obtain ⟨rfl, hW, hS0, hw⟩ := hP
  have hx := B.exec
  have hb := B.bytes
  have hT := pj_at hF.1 hW #[Value.ref av, Value.int 0, Value.int (nI k)]
  have hTS := TS_at hF.1 hW #[Value.ref av, Value.int 0, Value.int (nI k)]
  have hK := va_K.moved hW.alike hF.2.1
  have hZ := (va_Z.moved hW.alike hF.2.2).kept hS0.2.1
  have hown := findClass_of_methodNamed B.named
  have hS : va_S (tA s0) s.heap s.heap [] := va_S.rf
  have hA : ∀ q : Nat, s.heap.size ≤ q → tA s0 q := fun q h => Nat.le_trans hS0.1 h
  have hpre : ∀ {H1 : Heap} {locs1 : List Loc} {Wd : Heap → Prop}, va_S (tA s0) s.heap H1 locs1 → Wd H1 → ∀ (av : List Value) (U : State), U.heap = H1 → s.WarmedH U.vm → tP s0 av Wd av.toArray U := fun hS1 hw1 av U hU hWU => ⟨rfl, State.WarmedH.trans hW hWU, by rw [hU]; exact pas_nil (pas_trans hS0 hS1), by rw [hU]; exact hw1⟩
  have hl := lv_entry [.ref av, .int 0, .int (nI k)] (n := 5) (Nat.le_of_ble_eq_true rfl)
  rw [lg_entry_eq]
  generalize (lg_sl [.ref av, .int 0, .int (nI k)] ++ List.replicate (5 - (lg_sl [.ref av, .int 0, .int (nI k)]).length) Slot.unset).toArray = ls at hl ⊢
  have hl : lv_has ls 5 [(0, .ref av), (1, .int 0), (2, .int (nI k))] := hl
  refine lv_iload_n hx hb (by decide +kernel : decode cJ7_copyOfRangeByte_39247 0 = .ok (.iload_n 1, 1)) rfl (lv_at hl 1 rfl) ?_
  refine lv_iload_n hx hb (by decide +kernel : decode cJ7_copyOfRangeByte_39247 1 = .ok (.iload_n 2, 1)) rfl (lv_at hl 2 rfl) ?_
  refine t_use0 (va_runS (Ts := TG) (As := [.int 0, .int (nI k)]) (n := 2) (nL := 5) (rest := []) ⟨hx, hb, hml, hown, hT⟩ (jt_ckl hF (k := k) (Wd := fun H => H = s.heap) (by omega)) ⟨pj_cb hT okT_J7_checkLength_df160_c okT_i_java_util_Arrays okT_l_Arrays_343 ⟨by decide, by decide, by decide +kernel⟩ ⟨by show 0 + 1 ≤ 1; decide, by show 8 + (2 + 11) + 0 ≤ 60; decide⟩, hT _ okT_J7_checkLength_df160_s⟩ ⟨tP_blind, hpre (Wd := fun H => H = s.heap) hS rfl _⟩ rfl rfl hl.1 rfl (by show 2 * 0 + 0 ≤ 8; decide) (by decide +kernel : decode cJ7_copyOfRangeByte_39247 2 = .ok (.invokestatic 343, 3)) ⟨by show 0 + 0 ≤ 1; decide, by show 0 + 0 ≤ k; omega⟩) (fun r H1 hv => ?_)
  obtain ⟨rfl, rfl⟩ := hv
  refine lv_iload_n hx hb (by decide +kernel : decode cJ7_copyOfRangeByte_39247 5 = .ok (.iload_n 2, 1)) rfl (lv_at hl 2 rfl) ?_
  refine lv_iload_n hx hb (by decide +kernel : decode cJ7_copyOfRangeByte_39247 6 = .ok (.iload_n 1, 1)) rfl (lv_at hl 1 rfl) ?_
  refine lv_isub hx hb (by decide +kernel : decode cJ7_copyOfRangeByte_39247 7 = .ok (.isub, 1)) ?_
  rw [show nI k - 0 = nI k from pk_sub (b := 0) (by omega)]
  refine lv_istore_n hx hb (by decide +kernel : decode cJ7_copyOfRangeByte_39247 8 = .ok (.istore_n 3, 1)) rfl hl (by decide) rfl (fun ls hl => ?_)
  refine lv_iload_n hx hb (by decide +kernel : decode cJ7_copyOfRangeByte_39247 9 = .ok (.iload_n 3, 1)) rfl (lv_at hl 0 rfl) ?_
  refine va_newa (atype := .byte) (N' := k) (a0 := (k, .inl (fun _ => 0))) hx hb (hT _ okA_byte) rfl hK va_P.nil va_D.nil (va_S.rf (A := tA s)) (fun q h => h) (fun cA => rfl) (nI_pos (by omega)) (nI_clamp (by omega)) (by show k * 1 ≤ 536870912; omega) (Nat.le_refl _) (by show 0 + k ≤ k; omega) (by decide +kernel : decode cJ7_copyOfRangeByte_39247 10 = .ok (.newarray .byte, 2)) (fun q cA H1 hK1 hP1 hD1 hS1 => ?_)
  have hcA := tB_eq hK1
  rw [hcA] at hP1 hD1
  refine lv_astore hx hb (by decide +kernel : decode cJ7_copyOfRangeByte_39247 12 = .ok (.astore 4, 2)) hl (by decide) rfl (fun ls hl => ?_)
  refine lv_aload_n hx hb (by decide +kernel : decode cJ7_copyOfRangeByte_39247 14 = .ok (.aload_n 0, 1)) rfl (lv_at hl 2 rfl) ?_
  refine lv_iload_n hx hb (by decide +kernel : decode cJ7_copyOfRangeByte_39247 15 = .ok (.iload_n 1, 1)) rfl (lv_at hl 3 rfl) ?_
  refine lv_aload hx hb (by decide +kernel : decode cJ7_copyOfRangeByte_39247 16 = .ok (.aload 4, 2)) (lv_at hl 0 rfl) ?_
  refine lv_iconst (v := 0) hx hb (by decide +kernel : decode cJ7_copyOfRangeByte_39247 18 = .ok (.iconst 0, 1)) rfl ?_
  refine lv_aload_n hx hb (by decide +kernel : decode cJ7_copyOfRangeByte_39247 19 = .ok (.aload_n 0, 1)) rfl (lv_at hl 2 rfl) ?_
  have hm := ws_more hS0 hw hS1 hP1 hD1
  have hk0' : (ws ++ [(q, .inl (cB, k, .inl (fun _ => 0)))])[k0]? = some (av, .inl (cB, m9, .inl f)) := by
    rw [List.getElem?_append_left (List.getElem?_eq_some_iff.mp hk0).1]
    exact hk0
  refine va_alen (v := nI m9) hx hb hK hm.1 k0 0 hk0' rfl rfl (by decide +kernel : decode cJ7_copyOfRangeByte_39247 20 = .ok (.arraylength, 1)) ?_
  refine lv_iload_n hx hb (by decide +kernel : decode cJ7_copyOfRangeByte_39247 21 = .ok (.iload_n 1, 1)) rfl (lv_at hl 3 rfl) ?_
  refine lv_isub hx hb (by decide +kernel : decode cJ7_copyOfRangeByte_39247 22 = .ok (.isub, 1)) ?_
  rw [show nI m9 - 0 = nI m9 from pk_sub (b := 0) (by omega)]
  refine lv_iload_n hx hb (by decide +kernel : decode cJ7_copyOfRangeByte_39247 23 = .ok (.iload_n 3, 1)) rfl (lv_at hl 1 rfl) ?_
  refine va_mmin hx hb (hml.trans hl.1.symm) hown (hT _ okT_l_Arrays_304) (hT _ okJ_mn) (hT _ okJ_im) (hT _ okJ_cn) (Nat.le_refl _) (by show 1 + (1 + (1 + (1 + 0))) + 13 ≤ 60; decide) (Nat.le_refl _) (by show 0 + k ≤ k; omega) (by decide +kernel : decode cJ7_copyOfRangeByte_39247 24 = .ok (.invokestatic 304, 3)) ?_
  have e9 : (if nI k < nI m9 then nI k else nI m9) = nI k := by
    by_cases y : k < m9
    · rw [if_pos (nI_lt y (by omega))]
    · rw [if_neg (nI_nlt (by omega) (by omega)), show m9 = k by omega]
  rw [e9]
  refine vk_copyt (n0 := m9) (f := f) hx hb (hml.trans hl.1.symm) hown (hT _ okT_l_Arrays_150) (hT _ okJ_an) (hT _ okJ_ac) (hT _ okJ_is) hK hP1 hD1 hS1 (jt_T hK hw.1 (k := k0) hk0 (A := tA s) (fun h => absurd (hw.1 k0 _ hk0).lt (Nat.not_lt.mpr h))) 0 0 rfl rfl (by decide) (by decide) (nI_pos (by omega)) (by rw [sb_cl0, nI_clamp (by omega)]; omega) (by rw [sb_cl0, nI_clamp (by omega)]; omega) (fun i _ => hfit _) (Nat.le_refl _) (by show 0 + _ ≤ 60; decide +kernel) (by decide +kernel : decode cJ7_copyOfRangeByte_39247 27 = .ok (.invokestatic 150, 3)) (fun H2 locs2 hP2 hD2 hS2 => ?_)
  refine lv_aload hx hb (by decide +kernel : decode cJ7_copyOfRangeByte_39247 30 = .ok (.aload 4, 2)) (lv_at hl 0 rfl) ?_
  have hm2 := ws_more hS0 hw hS2 hP2 hD2
  refine W.widen (k := 1) (n := k) (Nat.le_refl _) (by show 0 + k ≤ k; omega) ?_
  refine W.aret hx hb B.returns (Or.inr ⟨_, rfl⟩) (Or.inr ⟨_, rfl⟩) (fun t ht _ => ⟨_, rfl, (hS2.mono (fun q h => hA q h)).F ht, _, _, rfl, by rw [ht]; exact hm2, ?_, fun j hj => ?_⟩) (fun q h => hA _ (hS2.2.2 q h)) (by decide +kernel : decode cJ7_copyOfRangeByte_39247 32 = .ok (.areturn, 1)) B.notSynchronized
  · exact sb_fitC hfit sb_fit0
  · rw [sb_cl0, show (nI k).toNatClampNeg = k from nI_clamp (by omega)]
    exact sb_cpy0 hj
end JT10
