/-! THE TEXT: room is made -/
section JT1
variable {l : Launch} {D : va_G} {cB : ClassId} {s0 : State} {a0 : Array Value} {sb av : Nat} {b0 : Int32} {n m9 : Nat} {f : Nat → Int32} {Wd : Heap → Prop}
theorem jt_can (hF : tFx D cB s0 a0) {x : Nat} (hx9 : x < 256) : tMet l yJ1_canEncode_fc78d cJ1_canEncode_fc78d 1 (some .boolean) 0 0 0 0 s0 [.int (nI x)] Wd (fun v H => v = some (.int 1) ∧ Wd H) := by
  refine Met.ofW (by decide) rfl fun p e s m args below meth c s₁ B hml hP => ?_
  obtain ⟨rfl, hW, hS0, hw⟩ := hP
  have hx := B.exec
  have hb := B.bytes
  have hT := pj_at hF.1 hW #[Value.int (nI x)]
  have hTS := TS_at hF.1 hW #[Value.int (nI x)]
  have hK := va_K.moved hW.alike hF.2.1
  have hZ := (va_Z.moved hW.alike hF.2.2).kept hS0.2.1
  have hown := findClass_of_methodNamed B.named
  have hS : va_S (tA s0) s.heap s.heap [] := va_S.rf
  have hA : ∀ q : Nat, s.heap.size ≤ q → tA s0 q := fun q h => Nat.le_trans hS0.1 h
  have hpre : ∀ {H1 : Heap} {locs1 : List Loc} {Wd : Heap → Prop}, va_S (tA s0) s.heap H1 locs1 → Wd H1 → ∀ (av : List Value) (U : State), U.heap = H1 → s.WarmedH U.vm → tP s0 av Wd av.toArray U := fun hS1 hw1 av U hU hWU => ⟨rfl, State.WarmedH.trans hW hWU, by rw [hU]; exact pas_nil (pas_trans hS0 hS1), by rw [hU]; exact hw1⟩
  have hl := lv_entry [.int (nI x)] (n := 1) (Nat.le_of_ble_eq_true rfl)
  rw [lg_entry_eq]
  generalize (lg_sl [.int (nI x)] ++ List.replicate (1 - (lg_sl [.int (nI x)]).length) Slot.unset).toArray = ls at hl ⊢
  have hl : lv_has ls 1 [(0, .int (nI x))] := hl
  refine lv_iload_n hx hb (by decide +kernel : decode cJ1_canEncode_fc78d 0 = .ok (.iload_n 0, 1)) rfl (lv_at hl 0 rfl) ?_
  refine lv_sipush hx hb (by decide +kernel : decode cJ1_canEncode_fc78d 1 = .ok (.sipush 255, 3)) (v := 255) (by decide) ?_
  refine lv_icmp_gt hx hb (by decide +kernel : decode cJ1_canEncode_fc78d 4 = .ok (.if_icmp .gt 7, 3)) (tgt := 11) (by decide) (fun q => absurd q (show ¬ nI 255 < nI x from nI_nlt (by omega) (by decide))) fun _ => ?_
  refine lv_iconst hx hb (by decide +kernel : decode cJ1_canEncode_fc78d 7 = .ok (.iconst 1, 1)) (v := 1) rfl ?_
  refine lv_goto hx hb (by decide +kernel : decode cJ1_canEncode_fc78d 8 = .ok (.goto 4, 3)) (tgt := 12) (by decide) ?_
  exact W.zret hx hb B.returns rfl (fun t ht _ => ⟨_, rfl, va_S.rf.F ht, rfl, by rw [ht]; exact hw⟩) (fun q h => by cases h) (by decide +kernel : decode cJ1_canEncode_fc78d 12 = .ok (.ireturn, 1)) B.notSynchronized
theorem jt_nl (hF : tFx D cB s0 a0) {o g q9 : Nat} (h0 : 0 < o + (if g < q9 then q9 else g)) (h1 : o < 65536) (h2 : g < 65536) (h3 : q9 < 65536) : tMet l yJ8_newLength_cabcc cJ8_newLength_cabcc 4 (some .int) 1 21 0 0 s0 [.int (nI o), .int (nI g), .int (nI q9)] Wd (fun v H => v = some (.int (nI (o + (if g < q9 then q9 else g)))) ∧ Wd H) := by
  refine Met.ofW (by decide) rfl fun p e s m args below meth c s₁ B hml hP => ?_
  obtain ⟨rfl, hW, hS0, hw⟩ := hP
  have hx := B.exec
  have hb := B.bytes
  have hT := pj_at hF.1 hW #[Value.int (nI o), Value.int (nI g), Value.int (nI q9)]
  have hTS := TS_at hF.1 hW #[Value.int (nI o), Value.int (nI g), Value.int (nI q9)]
  have hK := va_K.moved hW.alike hF.2.1
  have hZ := (va_Z.moved hW.alike hF.2.2).kept hS0.2.1
  have hown := findClass_of_methodNamed B.named
  have hS : va_S (tA s0) s.heap s.heap [] := va_S.rf
  have hA : ∀ q : Nat, s.heap.size ≤ q → tA s0 q := fun q h => Nat.le_trans hS0.1 h
  have hpre : ∀ {H1 : Heap} {locs1 : List Loc} {Wd : Heap → Prop}, va_S (tA s0) s.heap H1 locs1 → Wd H1 → ∀ (av : List Value) (U : State), U.heap = H1 → s.WarmedH U.vm → tP s0 av Wd av.toArray U := fun hS1 hw1 av U hU hWU => ⟨rfl, State.WarmedH.trans hW hWU, by rw [hU]; exact pas_nil (pas_trans hS0 hS1), by rw [hU]; exact hw1⟩
  have hl := lv_entry [.int (nI o), .int (nI g), .int (nI q9)] (n := 4) (Nat.le_of_ble_eq_true rfl)
  rw [lg_entry_eq]
  generalize (lg_sl [.int (nI o), .int (nI g), .int (nI q9)] ++ List.replicate (4 - (lg_sl [.int (nI o), .int (nI g), .int (nI q9)]).length) Slot.unset).toArray = ls at hl ⊢
  have hl : lv_has ls 4 [(0, .int (nI o)), (1, .int (nI g)), (2, .int (nI q9))] := hl
  have e3 : (if nI g < nI q9 then nI q9 else nI g) = nI (if g < q9 then q9 else g) := by
    by_cases q : g < q9
    · rw [if_pos q, if_pos (nI_lt q (by omega))]
    · rw [if_neg q, if_neg (nI_nlt (by omega) (by omega))]
  generalize hk : (if g < q9 then q9 else g) = k at *
  have hk2 : k < 65536 := by
    rw [← hk]
    split <;> omega
  refine lv_iload_n hx hb (by decide +kernel : decode cJ8_newLength_cabcc 0 = .ok (.iload_n 0, 1)) rfl (lv_at hl 0 rfl) ?_
  refine lv_iload_n hx hb (by decide +kernel : decode cJ8_newLength_cabcc 1 = .ok (.iload_n 1, 1)) rfl (lv_at hl 1 rfl) ?_
  refine lv_iload_n hx hb (by decide +kernel : decode cJ8_newLength_cabcc 2 = .ok (.iload_n 2, 1)) rfl (lv_at hl 2 rfl) ?_
  refine va_mmax hx hb (hml.trans hl.1.symm) hown (hT _ okT_l_ArraysSupport_194) (hT _ okJ_mx) (hT _ okJ_im) (hT _ okJ_cx) (Nat.le_refl _) (by show 1 + 0 + 13 ≤ 21; decide) (Nat.le_refl _) (Nat.le_refl _) (by decide +kernel : decode cJ8_newLength_cabcc 3 = .ok (.invokestatic 194, 3)) ?_
  rw [e3]
  refine lv_iadd hx hb (by decide +kernel : decode cJ8_newLength_cabcc 6 = .ok (.iadd, 1)) ?_
  rw [nI_add]
  refine lv_istore_n hx hb (by decide +kernel : decode cJ8_newLength_cabcc 7 = .ok (.istore_n 3, 1)) rfl hl (by decide) rfl (fun ls hl => ?_)
  refine lv_iconst hx hb (by decide +kernel : decode cJ8_newLength_cabcc 8 = .ok (.iconst 0, 1)) (v := 0) rfl ?_
  refine lv_iload_n hx hb (by decide +kernel : decode cJ8_newLength_cabcc 9 = .ok (.iload_n 3, 1)) rfl (lv_at hl 0 rfl) ?_
  refine lv_icmp_ge hx hb (by decide +kernel : decode cJ8_newLength_cabcc 10 = .ok (.if_icmp .ge 11, 3)) (tgt := 21) (by decide) (fun q => absurd q (nI_nle h0 (by omega))) fun _ => ?_
  refine lv_iload_n hx hb (by decide +kernel : decode cJ8_newLength_cabcc 13 = .ok (.iload_n 3, 1)) rfl (lv_at hl 0 rfl) ?_
  refine lv_ldc hx hb hown (hT _ okT_k_ArraysSupport_200) (by decide +kernel : decode cJ8_newLength_cabcc 14 = .ok (.ldc 200, 2)) ?_
  refine lv_icmp_gt hx hb (by decide +kernel : decode cJ8_newLength_cabcc 16 = .ok (.if_icmp .gt 5, 3)) (tgt := 21) (by decide) (fun q => absurd q (show ¬ nI 2147483639 < nI (o + k) from nI_nlt (by omega) (by decide))) fun _ => ?_
  refine lv_iload_n hx hb (by decide +kernel : decode cJ8_newLength_cabcc 19 = .ok (.iload_n 3, 1)) rfl (lv_at hl 0 rfl) ?_
  exact W.iret hx hb B.returns (fun t ht _ => ⟨_, rfl, va_S.rf.F ht, rfl, by rw [ht]; exact hw⟩) (fun q h => by cases h) (by decide +kernel : decode cJ8_newLength_cabcc 20 = .ok (.ireturn, 1)) B.notSynchronized
end JT1
