/-! THE TEXT: numbers -/
def tDg (dO dT : Nat) (s0 : State) : Prop := va_Z "java/lang/Integer" "DigitOnes" "[B" (.ref dO) (tA s0) s0 s0.heap ∧ va_Z "java/lang/Integer" "DigitTens" "[B" (.ref dT) (tA s0) s0 s0.heap ∧ va_T .byte dO 100 (fun j => .int (nI (48 + j % 10))) (tA s0) s0 s0.heap ∧ va_T .byte dT 100 (fun j => .int (nI (48 + j / 10))) (tA s0) s0 s0.heap
theorem jt_neg : ∀ v, v < 100 → ¬ nI v < 0 ∧ 0 ≤ nI v ∧ (10 ≤ v ↔ -nI v ≤ -10) ∧ ¬ -nI v ≤ -100 ∧ (v < 10 ↔ -9 ≤ -nI v) ∧ -100 < -nI v ∧ - -nI v = nI v ∧ (nI v).toNatClampNeg = v := by decide +kernel
theorem jt_dig : ∀ d, d < 10 → vp_nar .byte (nI (48 + d)) = sb_b (48 + d) := by decide +kernel
section JT5
variable {l : Launch} {D : va_G} {cB : ClassId} {s0 : State} {a0 : Array Value} {sb av dO dT : Nat} {b0 : Int32} {n m9 : Nat} {f : Nat → Int32} {Wd : Heap → Prop} {t9 : List Nat}
theorem jt_ssz (hF : tFx D cB s0 a0) {v : Nat} (hv : v < 100) : tMet l yJ6_stringSize_0f7a4 cJ6_stringSize_0f7a4 4 (some .int) 0 0 0 0 s0 [.int (nI v)] Wd (fun r H => r = some (.int (nI (nu v).length)) ∧ Wd H) := by
  refine Met.ofW (by decide) rfl fun p e s m args below meth c s₁ B hml hP => ?_
  obtain ⟨rfl, hW, hS0, hw⟩ := hP
  have hx := B.exec
  have hb := B.bytes
  have hT := pj_at hF.1 hW #[Value.int (nI v)]
  have hTS := TS_at hF.1 hW #[Value.int (nI v)]
  have hK := va_K.moved hW.alike hF.2.1
  have hZ := (va_Z.moved hW.alike hF.2.2).kept hS0.2.1
  have hown := findClass_of_methodNamed B.named
  have hS : va_S (tA s0) s.heap s.heap [] := va_S.rf
  have hA : ∀ q : Nat, s.heap.size ≤ q → tA s0 q := fun q h => Nat.le_trans hS0.1 h
  have hpre : ∀ {H1 : Heap} {locs1 : List Loc} {Wd : Heap → Prop}, va_S (tA s0) s.heap H1 locs1 → Wd H1 → ∀ (av : List Value) (U : State), U.heap = H1 → s.WarmedH U.vm → tP s0 av Wd av.toArray U := fun hS1 hw1 av U hU hWU => ⟨rfl, State.WarmedH.trans hW hWU, by rw [hU]; exact pas_nil (pas_trans hS0 hS1), by rw [hU]; exact hw1⟩
  have hl := lv_entry [.int (nI v)] (n := 4) (Nat.le_of_ble_eq_true rfl)
  rw [lg_entry_eq]
  generalize (lg_sl [.int (nI v)] ++ List.replicate (4 - (lg_sl [.int (nI v)]).length) Slot.unset).toArray = ls at hl ⊢
  have hl : lv_has ls 4 [(0, .int (nI v))] := hl
  obtain ⟨n1, n2, n3, n4, n5, n6, n7, n8⟩ := jt_neg v hv
  refine lv_iconst (v := 1) hx hb (by decide +kernel : decode cJ6_stringSize_0f7a4 0 = .ok (.iconst 1, 1)) rfl ?_
  refine lv_istore_n hx hb (by decide +kernel : decode cJ6_stringSize_0f7a4 1 = .ok (.istore_n 1, 1)) rfl hl (by decide) rfl (fun ls hl => ?_)
  refine lv_iload_n hx hb (by decide +kernel : decode cJ6_stringSize_0f7a4 2 = .ok (.iload_n 0, 1)) rfl (lv_at hl 1 rfl) ?_
  refine lv_if_lt hx hb (by decide +kernel : decode cJ6_stringSize_0f7a4 3 = .ok (.ifCond .lt 8, 3)) (tgt := 11) (by decide) (fun q => absurd q n1) fun _ => ?_
  refine lv_iconst (v := 0) hx hb (by decide +kernel : decode cJ6_stringSize_0f7a4 6 = .ok (.iconst 0, 1)) rfl ?_
  refine lv_istore_n hx hb (by decide +kernel : decode cJ6_stringSize_0f7a4 7 = .ok (.istore_n 1, 1)) rfl hl (by decide) rfl (fun ls hl => ?_)
  refine lv_iload_n hx hb (by decide +kernel : decode cJ6_stringSize_0f7a4 8 = .ok (.iload_n 0, 1)) rfl (lv_at hl 1 rfl) ?_
  refine lv_ineg hx hb (by decide +kernel : decode cJ6_stringSize_0f7a4 9 = .ok (.ineg, 1)) ?_
  refine lv_istore_n hx hb (by decide +kernel : decode cJ6_stringSize_0f7a4 10 = .ok (.istore_n 0, 1)) rfl hl (by decide) rfl (fun ls hl => ?_)
  refine lv_bipush (v := -10) hx hb (by decide +kernel : decode cJ6_stringSize_0f7a4 11 = .ok (.bipush (-10), 2)) (by decide) ?_
  refine lv_istore_n hx hb (by decide +kernel : decode cJ6_stringSize_0f7a4 13 = .ok (.istore_n 2, 1)) rfl hl (by decide) rfl (fun ls hl => ?_)
  refine lv_iconst (v := 1) hx hb (by decide +kernel : decode cJ6_stringSize_0f7a4 14 = .ok (.iconst 1, 1)) rfl ?_
  refine lv_istore_n hx hb (by decide +kernel : decode cJ6_stringSize_0f7a4 15 = .ok (.istore_n 3, 1)) rfl hl (by decide) rfl (fun ls hl => ?_)
  refine lv_iload_n hx hb (by decide +kernel : decode cJ6_stringSize_0f7a4 16 = .ok (.iload_n 3, 1)) rfl (lv_at hl 0 rfl) ?_
  refine lv_bipush (v := 10) hx hb (by decide +kernel : decode cJ6_stringSize_0f7a4 17 = .ok (.bipush 10, 2)) (by decide) ?_
  refine lv_icmp_ge hx hb (by decide +kernel : decode cJ6_stringSize_0f7a4 19 = .ok (.if_icmp .ge 23, 3)) (tgt := 42) (by decide) (fun q => absurd q (by decide)) fun _ => ?_
  refine lv_iload_n hx hb (by decide +kernel : decode cJ6_stringSize_0f7a4 22 = .ok (.iload_n 0, 1)) rfl (lv_at hl 2 rfl) ?_
  refine lv_iload_n hx hb (by decide +kernel : decode cJ6_stringSize_0f7a4 23 = .ok (.iload_n 2, 1)) rfl (lv_at hl 1 rfl) ?_
  refine lv_icmp_le hx hb (by decide +kernel : decode cJ6_stringSize_0f7a4 24 = .ok (.if_icmp .le 7, 3)) (tgt := 31) (by decide) (fun q => ?_) (fun q => ?_)
  · have h10 := n3.mpr q
    refine lv_bipush (v := 10) hx hb (by decide +kernel : decode cJ6_stringSize_0f7a4 31 = .ok (.bipush 10, 2)) (by decide) ?_
    refine lv_iload_n hx hb (by decide +kernel : decode cJ6_stringSize_0f7a4 33 = .ok (.iload_n 2, 1)) rfl (lv_at hl 1 rfl) ?_
    refine lv_imul hx hb (by decide +kernel : decode cJ6_stringSize_0f7a4 34 = .ok (.imul, 1)) ?_
    rw [show (10 : Int32) * -10 = -100 by decide]
    refine lv_istore_n hx hb (by decide +kernel : decode cJ6_stringSize_0f7a4 35 = .ok (.istore_n 2, 1)) rfl hl (by decide) rfl (fun ls hl => ?_)
    refine lv_iinc (v := 2) hx hb (by decide +kernel : decode cJ6_stringSize_0f7a4 36 = .ok (.iinc 3 1, 3)) hl (k := 1) rfl (by decide) (by decide) rfl (fun ls hl => ?_)
    refine lv_goto hx hb (by decide +kernel : decode cJ6_stringSize_0f7a4 39 = .ok (.goto (-23), 3)) (tgt := 16) (by decide) ?_
    refine lv_iload_n hx hb (by decide +kernel : decode cJ6_stringSize_0f7a4 16 = .ok (.iload_n 3, 1)) rfl (lv_at hl 0 rfl) ?_
    refine lv_bipush (v := 10) hx hb (by decide +kernel : decode cJ6_stringSize_0f7a4 17 = .ok (.bipush 10, 2)) (by decide) ?_
    refine lv_icmp_ge hx hb (by decide +kernel : decode cJ6_stringSize_0f7a4 19 = .ok (.if_icmp .ge 23, 3)) (tgt := 42) (by decide) (fun q => absurd q (by decide)) fun _ => ?_
    refine lv_iload_n hx hb (by decide +kernel : decode cJ6_stringSize_0f7a4 22 = .ok (.iload_n 0, 1)) rfl (lv_at hl 2 rfl) ?_
    refine lv_iload_n hx hb (by decide +kernel : decode cJ6_stringSize_0f7a4 23 = .ok (.iload_n 2, 1)) rfl (lv_at hl 1 rfl) ?_
    refine lv_icmp_le hx hb (by decide +kernel : decode cJ6_stringSize_0f7a4 24 = .ok (.if_icmp .le 7, 3)) (tgt := 31) (by decide) (fun q => absurd q n4) fun _ => ?_
    refine lv_iload_n hx hb (by decide +kernel : decode cJ6_stringSize_0f7a4 27 = .ok (.iload_n 3, 1)) rfl (lv_at hl 0 rfl) ?_
    refine lv_iload_n hx hb (by decide +kernel : decode cJ6_stringSize_0f7a4 28 = .ok (.iload_n 1, 1)) rfl (lv_at hl 3 rfl) ?_
    refine lv_iadd hx hb (by decide +kernel : decode cJ6_stringSize_0f7a4 29 = .ok (.iadd, 1)) ?_
    have e2 : (nu v).length = 2 := by unfold nu; rw [if_neg (by omega)]; rfl
    exact W.iret hx hb B.returns (fun t ht _ => ⟨_, rfl, hS.F ht, by rw [e2]; rfl, by rw [ht]; exact hw⟩) (fun q h => by cases h) (by decide +kernel : decode cJ6_stringSize_0f7a4 30 = .ok (.ireturn, 1)) B.notSynchronized
  · have h10 : ¬ 10 ≤ v := fun z => q (n3.mp z)
    refine lv_iload_n hx hb (by decide +kernel : decode cJ6_stringSize_0f7a4 27 = .ok (.iload_n 3, 1)) rfl (lv_at hl 0 rfl) ?_
    refine lv_iload_n hx hb (by decide +kernel : decode cJ6_stringSize_0f7a4 28 = .ok (.iload_n 1, 1)) rfl (lv_at hl 3 rfl) ?_
    refine lv_iadd hx hb (by decide +kernel : decode cJ6_stringSize_0f7a4 29 = .ok (.iadd, 1)) ?_
    have e2 : (nu v).length = 1 := by unfold nu; rw [if_pos (by omega)]; rfl
    exact W.iret hx hb B.returns (fun t ht _ => ⟨_, rfl, hS.F ht, by rw [e2]; rfl, by rw [ht]; exact hw⟩) (fun q h => by cases h) (by decide +kernel : decode cJ6_stringSize_0f7a4 30 = .ok (.ireturn, 1)) B.notSynchronized
end JT5
