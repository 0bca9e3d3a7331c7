/-! THE TEXT: room is made, on -/
section JT2
variable {l : Launch} {D : va_G} {cB : ClassId} {s0 : State} {a0 : Array Value} {sb av : Nat} {b0 : Int32} {n m9 : Nat} {f : Nat → Int32} {Wd : Heap → Prop}
theorem jt_T {U : State} {H : Heap} {ws : va_W} {k a m : Nat} (hK : va_K D tCl [(cB, .byte)] U) (hP : va_P D tCl ws H) (hk : ws[k]? = some (a, .inl (cB, m, .inl f))) {A : Nat → Prop} (hA : ¬ A a) : va_T .byte a m (fun j => .int (f j)) A U H :=
  ⟨vp_cell cB (m, .inl f), hP k _ hk, (hK.2 0 _ rfl).1 m (fun j => .int (f j)), fun q => (by cases q), Nat.le_of_eq (by rw [vp_cell_i, arrV_size]), by rw [vp_cell_i, arrV_size], fun j hj => arrV_read _ _ hj, hA⟩
theorem tB_eq {U : State} {cA : ClassId} (h : va_K D tCl ([(cB, .byte)] ++ [(cA, .byte)]) U) : cA = cB := by
  have h0 : U.vm.findClass ("[" ++ (FieldType.byte).toString) = some cB := (h.2 0 _ rfl).2
  have h1 : U.vm.findClass ("[" ++ (FieldType.byte).toString) = some cA := (h.2 1 _ rfl).2
  exact Option.some.inj (h1.symm.trans h0)
theorem va_S.mono {A A' : Nat → Prop} {H0 H : Heap} {locs : List Loc} (h : va_S A' H0 H locs) (hA : ∀ q, A' q → A q) : va_S A H0 H locs := ⟨h.1, fun q h1 h2 => h.2.1 q h1 (fun z => h2 (hA q z)), fun q hq => hA _ (h.2.2 q hq)⟩
theorem jt_cap (hF : tFx D cB s0 a0) {x : Int32} {need : Nat} (h1 : m9 < need) (h2 : need < 30000) : tMet l yJ5_newCapacity_0f7a4 cJ5_newCapacity_0f7a4 6 (some .int) 2 44 0 0 s0 [.ref sb, .int (nI need)] (SBc D cB s0 sb av b0 x m9 f) (fun v H => v = some (.int (nI (m9 + (if need - m9 < m9 + 2 then m9 + 2 else need - m9)))) ∧ SBc D cB s0 sb av b0 x m9 f H) := by
  refine Met.ofW (by decide) rfl fun p e s m args below meth c s₁ B hml hP => ?_
  obtain ⟨rfl, hW, hS0, hw⟩ := hP
  have hx := B.exec
  have hb := B.bytes
  have hT := pj_at hF.1 hW #[Value.ref sb, Value.int (nI need)]
  have hTS := TS_at hF.1 hW #[Value.ref sb, Value.int (nI need)]
  have hK := va_K.moved hW.alike hF.2.1
  have hZ := (va_Z.moved hW.alike hF.2.2).kept hS0.2.1
  have hown := findClass_of_methodNamed B.named
  have hS : va_S (tA s0) s.heap s.heap [] := va_S.rf
  have hA : ∀ q : Nat, s.heap.size ≤ q → tA s0 q := fun q h => Nat.le_trans hS0.1 h
  have hpre : ∀ {H1 : Heap} {locs1 : List Loc} {Wd : Heap → Prop}, va_S (tA s0) s.heap H1 locs1 → Wd H1 → ∀ (av : List Value) (U : State), U.heap = H1 → s.WarmedH U.vm → tP s0 av Wd av.toArray U := fun hS1 hw1 av U hU hWU => ⟨rfl, State.WarmedH.trans hW hWU, by rw [hU]; exact pas_nil (pas_trans hS0 hS1), by rw [hU]; exact hw1⟩
  have hl := lv_entry [.ref sb, .int (nI need)] (n := 6) (Nat.le_of_ble_eq_true rfl)
  rw [lg_entry_eq]
  generalize (lg_sl [.ref sb, .int (nI need)] ++ List.replicate (6 - (lg_sl [.ref sb, .int (nI need)]).length) Slot.unset).toArray = ls at hl ⊢
  have hl : lv_has ls 6 [(0, .ref sb), (1, .int (nI need))] := hl
  refine lv_aload_n hx hb (by decide +kernel : decode cJ5_newCapacity_0f7a4 0 = .ok (.aload_n 0, 1)) rfl (lv_at hl 0 rfl) ?_
  refine va_get (D := D) (ci := 0) (v := .ref av) (C := RJ4) (T := TJ4) (N := 4) hx hb hT jt_ws4 hown hK hw.1 0 rfl rfl 0 (by decide) (hT _ okT_f_AbstractStringBuilder_15) (fun _ h => h) rfl (by decide +kernel : decode cJ5_newCapacity_0f7a4 1 = .ok (.getfield 15, 3)) ?_
  refine va_alen hx hb hK hw.1 1 0 rfl rfl rfl (by decide +kernel : decode cJ5_newCapacity_0f7a4 4 = .ok (.arraylength, 1)) ?_
  refine lv_istore_n hx hb (by decide +kernel : decode cJ5_newCapacity_0f7a4 5 = .ok (.istore_n 2, 1)) rfl hl (by decide) rfl (fun ls hl => ?_)
  refine lv_iload_n hx hb (by decide +kernel : decode cJ5_newCapacity_0f7a4 6 = .ok (.iload_n 1, 1)) rfl (lv_at hl 2 rfl) ?_
  refine lv_aload_n hx hb (by decide +kernel : decode cJ5_newCapacity_0f7a4 7 = .ok (.aload_n 0, 1)) rfl (lv_at hl 1 rfl) ?_
  refine va_get (D := D) (ci := 0) (v := .int 0) (C := RJ4) (T := TJ4) (N := 4) hx hb hT jt_ws4 hown hK hw.1 0 rfl rfl 1 (by decide) (hT _ okT_f_AbstractStringBuilder_22) (fun _ h => h) rfl (by decide +kernel : decode cJ5_newCapacity_0f7a4 8 = .ok (.getfield 22, 3)) ?_
  refine lv_ishl hx hb (by decide +kernel : decode cJ5_newCapacity_0f7a4 11 = .ok (.ishl, 1)) ?_
  rw [sb_shl0]
  refine lv_istore_n hx hb (by decide +kernel : decode cJ5_newCapacity_0f7a4 12 = .ok (.istore_n 3, 1)) rfl hl (by decide) rfl (fun ls hl => ?_)
  refine lv_iload_n hx hb (by decide +kernel : decode cJ5_newCapacity_0f7a4 13 = .ok (.iload_n 3, 1)) rfl (lv_at hl 0 rfl) ?_
  refine lv_iload_n hx hb (by decide +kernel : decode cJ5_newCapacity_0f7a4 14 = .ok (.iload_n 2, 1)) rfl (lv_at hl 1 rfl) ?_
  refine lv_isub hx hb (by decide +kernel : decode cJ5_newCapacity_0f7a4 15 = .ok (.isub, 1)) ?_
  rw [show nI need - Int32.ofNat m9 = nI (need - m9) from pk_sub (by omega)]
  refine lv_istore hx hb (by decide +kernel : decode cJ5_newCapacity_0f7a4 16 = .ok (.istore 4, 2)) hl (by decide) rfl (fun ls hl => ?_)
  refine lv_iload_n hx hb (by decide +kernel : decode cJ5_newCapacity_0f7a4 18 = .ok (.iload_n 2, 1)) rfl (lv_at hl 2 rfl) ?_
  refine lv_iload hx hb (by decide +kernel : decode cJ5_newCapacity_0f7a4 19 = .ok (.iload 4, 2)) (lv_at hl 0 rfl) ?_
  refine lv_iload_n hx hb (by decide +kernel : decode cJ5_newCapacity_0f7a4 21 = .ok (.iload_n 2, 1)) rfl (lv_at hl 2 rfl) ?_
  refine lv_iconst (v := nI 2) hx hb (by decide +kernel : decode cJ5_newCapacity_0f7a4 22 = .ok (.iconst 2, 1)) (by decide) ?_
  refine lv_aload_n hx hb (by decide +kernel : decode cJ5_newCapacity_0f7a4 23 = .ok (.aload_n 0, 1)) rfl (lv_at hl 3 rfl) ?_
  refine va_get (D := D) (ci := 0) (v := .int 0) (C := RJ4) (T := TJ4) (N := 4) hx hb hT jt_ws4 hown hK hw.1 0 rfl rfl 1 (by decide) (hT _ okT_f_AbstractStringBuilder_22) (fun _ h => h) rfl (by decide +kernel : decode cJ5_newCapacity_0f7a4 24 = .ok (.getfield 22, 3)) ?_
  refine lv_ishl hx hb (by decide +kernel : decode cJ5_newCapacity_0f7a4 27 = .ok (.ishl, 1)) ?_
  rw [sb_shl0]
  refine lv_iadd hx hb (by decide +kernel : decode cJ5_newCapacity_0f7a4 28 = .ok (.iadd, 1)) ?_
  rw [show Int32.ofNat m9 + nI 2 = nI (m9 + 2) from nI_add m9 2]
  refine t_use (va_runS (Ts := TG) (As := [.int (nI m9), .int (nI (need - m9)), .int (nI (m9 + 2))]) (n := 3) (nL := 6) (rest := []) ⟨hx, hb, hml, hown, hT⟩ (jt_nl hF (o := m9) (g := need - m9) (q9 := m9 + 2) (Wd := SBc D cB s0 sb av b0 x m9 f) (by split <;> omega) (by omega) (by omega) (by omega)) ⟨pj_cb hT okT_J8_newLength_cabcc_c okT_i_jdk_internal_util_ArraysSupport okT_l_AbstractStringBuilder_114 ⟨by decide, by decide, by decide +kernel⟩ ⟨Nat.le_refl _, Nat.le_refl _⟩, hT _ okT_J8_newLength_cabcc_s⟩ ⟨tP_blind, hpre hS hw _⟩ rfl rfl hl.1 rfl (by show 2 * 0 + 0 ≤ 8; decide) (by decide +kernel : decode cJ5_newCapacity_0f7a4 29 = .ok (.invokestatic 114, 3)) ⟨Nat.le_refl _, Nat.le_refl _⟩) hS (fun v H1 locs1 hv hS => ?_)
  obtain ⟨rfl, hw⟩ := hv
  generalize hk : m9 + (if need - m9 < m9 + 2 then m9 + 2 else need - m9) = k at *
  have hk2 : k < 65536 := by
    rw [← hk]
    split <;> omega
  refine lv_istore hx hb (by decide +kernel : decode cJ5_newCapacity_0f7a4 32 = .ok (.istore 5, 2)) hl (by decide) rfl (fun ls hl => ?_)
  refine lv_iload hx hb (by decide +kernel : decode cJ5_newCapacity_0f7a4 34 = .ok (.iload 5, 2)) (lv_at hl 0 rfl) ?_
  refine lv_ldc hx hb hown (hT _ okT_k_AbstractStringBuilder_39) (by decide +kernel : decode cJ5_newCapacity_0f7a4 36 = .ok (.ldc 39, 2)) ?_
  refine lv_icmp_ne hx hb (by decide +kernel : decode cJ5_newCapacity_0f7a4 38 = .ok (.if_icmp .ne 13, 3)) (tgt := 51) (by decide) (fun _ => ?_) (fun q => absurd ((nI_eq (by omega) (by decide)).mp (show nI k = nI 2147483647 from q)) (by omega))
  refine lv_iload hx hb (by decide +kernel : decode cJ5_newCapacity_0f7a4 51 = .ok (.iload 5, 2)) (lv_at hl 0 rfl) ?_
  refine lv_aload_n hx hb (by decide +kernel : decode cJ5_newCapacity_0f7a4 53 = .ok (.aload_n 0, 1)) rfl (lv_at hl 4 rfl) ?_
  refine va_get (D := D) (ci := 0) (v := .int 0) (C := RJ4) (T := TJ4) (N := 4) hx hb hT jt_ws4 hown hK hw.1 0 rfl rfl 1 (by decide) (hT _ okT_f_AbstractStringBuilder_22) (fun _ h => h) rfl (by decide +kernel : decode cJ5_newCapacity_0f7a4 54 = .ok (.getfield 22, 3)) ?_
  refine lv_ishr hx hb (by decide +kernel : decode cJ5_newCapacity_0f7a4 57 = .ok (.ishr, 1)) ?_
  rw [sb_shr0]
  exact W.iret hx hb B.returns (fun t ht _ => ⟨_, rfl, hS.F ht, rfl, by rw [ht]; exact hw⟩) hS.2.2 (by decide +kernel : decode cJ5_newCapacity_0f7a4 58 = .ok (.ireturn, 1)) B.notSynchronized
end JT2
