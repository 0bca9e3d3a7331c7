/-! THE TEXT: numbers, on -/
section JT6
variable {l : Launch} {D : va_G} {cB : ClassId} {s0 : State} {a0 : Array Value} {sb av dO dT : Nat} {b0 : Int32} {n m9 : Nat} {f : Nat → Int32} {Wd : Heap → Prop} {t9 : List Nat}
/-- a number's letters are put before a place -/
def SBn (D : va_G) (cB : ClassId) (s0 : State) (sb av : Nat) (b0 n : Int32) (m : Nat) (f : Nat → Int32) (v p : Nat) (H : Heap) : Prop := ∃ g, SBc D cB s0 sb av b0 n m g H ∧ sb_Fit g ∧ (∀ j, j < p → g j = f j) ∧ ∀ i, i < (nu v).length → g (p + i) = sb_b ((nu v).getD i 0)
theorem jt_gch (hF : tFx D cB s0 a0) (hG : tDg dO dT s0) {x : Int32} {v P0 : Nat} (hv : v < 100) (hp : P0 + (nu v).length ≤ m9) (hm : m9 ≤ 1602) (hfit : sb_Fit f) : tMet l yJ6_getChars_ba4f3 cJ6_getChars_ba4f3 7 (some .int) 0 0 0 0 s0 [.int (nI v), .int (nI (P0 + (nu v).length)), .ref av] (SBc D cB s0 sb av b0 x m9 f) (fun r H => (∃ z, r = some (.int z)) ∧ SBn D cB s0 sb av b0 x m9 f v P0 H) := by
  refine Met.ofW (by decide) rfl fun p e s m args below meth c s₁ B hml hP => ?_
  obtain ⟨rfl, hW, hS0, hw⟩ := hP
  have hx := B.exec
  have hb := B.bytes
  have hT := pj_at hF.1 hW #[Value.int (nI v), Value.int (nI (P0 + (nu v).length)), Value.ref av]
  have hTS := TS_at hF.1 hW #[Value.int (nI v), Value.int (nI (P0 + (nu v).length)), Value.ref av]
  have hK := va_K.moved hW.alike hF.2.1
  have hZ := (va_Z.moved hW.alike hF.2.2).kept hS0.2.1
  have hown := findClass_of_methodNamed B.named
  have hS : va_S (tA s0) s.heap s.heap [] := va_S.rf
  have hA : ∀ q : Nat, s.heap.size ≤ q → tA s0 q := fun q h => Nat.le_trans hS0.1 h
  have hpre : ∀ {H1 : Heap} {locs1 : List Loc} {Wd : Heap → Prop}, va_S (tA s0) s.heap H1 locs1 → Wd H1 → ∀ (av : List Value) (U : State), U.heap = H1 → s.WarmedH U.vm → tP s0 av Wd av.toArray U := fun hS1 hw1 av U hU hWU => ⟨rfl, State.WarmedH.trans hW hWU, by rw [hU]; exact pas_nil (pas_trans hS0 hS1), by rw [hU]; exact hw1⟩
  have hl := lv_entry [.int (nI v), .int (nI (P0 + (nu v).length)), .ref av] (n := 7) (Nat.le_of_ble_eq_true rfl)
  rw [lg_entry_eq]
  generalize (lg_sl [.int (nI v), .int (nI (P0 + (nu v).length)), .ref av] ++ List.replicate (7 - (lg_sl [.int (nI v), .int (nI (P0 + (nu v).length)), .ref av]).length) Slot.unset).toArray = ls at hl ⊢
  have hl : lv_has ls 7 [(0, .int (nI v)), (1, .int (nI (P0 + (nu v).length))), (2, .ref av)] := hl
  obtain ⟨n1, n2, n3, n4, n5, n6, n7, n8⟩ := jt_neg v hv
  have hlen := nu_len v
  have hZO := (va_Z.moved hW.alike hG.1).kept hS0.2.1
  have hZT := (va_Z.moved hW.alike hG.2.1).kept hS0.2.1
  have hTO := (va_T.moved hW.alike hG.2.2.1).kept hS0.2.1
  have hTT := (va_T.moved hW.alike hG.2.2.2).kept hS0.2.1
  obtain ⟨q, hq⟩ : ∃ q, P0 + (nu v).length = q + 1 := ⟨P0 + (nu v).length - 1, by omega⟩
  rw [hq] at hl hp
  have e10 : v % 10 < 10 := Nat.mod_lt _ (by decide)
  refine lv_iload_n hx hb (by decide +kernel : decode cJ6_getChars_ba4f3 0 = .ok (.iload_n 1, 1)) rfl (lv_at hl 1 rfl) ?_
  refine lv_istore hx hb (by decide +kernel : decode cJ6_getChars_ba4f3 1 = .ok (.istore 5, 2)) hl (by decide) rfl (fun ls hl => ?_)
  refine lv_iload_n hx hb (by decide +kernel : decode cJ6_getChars_ba4f3 3 = .ok (.iload_n 0, 1)) rfl (lv_at hl 1 rfl) ?_
  refine lv_if_ge hx hb (by decide +kernel : decode cJ6_getChars_ba4f3 4 = .ok (.ifCond .ge 7, 3)) (tgt := 11) (by decide) (fun _ => ?_) (fun z => absurd n2 z)
  refine lv_iconst (v := 0) hx hb (by decide +kernel : decode cJ6_getChars_ba4f3 11 = .ok (.iconst 0, 1)) rfl ?_
  refine lv_istore hx hb (by decide +kernel : decode cJ6_getChars_ba4f3 12 = .ok (.istore 6, 2)) hl (by decide) rfl (fun ls hl => ?_)
  refine lv_iload hx hb (by decide +kernel : decode cJ6_getChars_ba4f3 14 = .ok (.iload 6, 2)) (lv_at hl 0 rfl) ?_
  refine lv_if_ne hx hb (by decide +kernel : decode cJ6_getChars_ba4f3 16 = .ok (.ifCond .ne 6, 3)) (tgt := 22) (by decide) (fun z => absurd rfl z) fun _ => ?_
  refine lv_iload_n hx hb (by decide +kernel : decode cJ6_getChars_ba4f3 19 = .ok (.iload_n 0, 1)) rfl (lv_at hl 2 rfl) ?_
  refine lv_ineg hx hb (by decide +kernel : decode cJ6_getChars_ba4f3 20 = .ok (.ineg, 1)) ?_
  refine lv_istore_n hx hb (by decide +kernel : decode cJ6_getChars_ba4f3 21 = .ok (.istore_n 0, 1)) rfl hl (by decide) rfl (fun ls hl => ?_)
  refine lv_iload_n hx hb (by decide +kernel : decode cJ6_getChars_ba4f3 22 = .ok (.iload_n 0, 1)) rfl (lv_at hl 0 rfl) ?_
  refine lv_bipush (v := -100) hx hb (by decide +kernel : decode cJ6_getChars_ba4f3 23 = .ok (.bipush (-100), 2)) (by decide) ?_
  refine lv_icmp_gt hx hb (by decide +kernel : decode cJ6_getChars_ba4f3 25 = .ok (.if_icmp .gt 47, 3)) (tgt := 72) (by decide) (fun _ => ?_) (fun z => absurd n6 z)
  refine lv_aload_n hx hb (by decide +kernel : decode cJ6_getChars_ba4f3 72 = .ok (.aload_n 2, 1)) rfl (lv_at hl 4 rfl) ?_
  refine lv_iinc (v := nI q) hx hb (by decide +kernel : decode cJ6_getChars_ba4f3 73 = .ok (.iinc 5 (-1), 3)) hl (k := 2) rfl (pk_m1 q) (by decide) rfl (fun ls hl => ?_)
  refine lv_iload hx hb (by decide +kernel : decode cJ6_getChars_ba4f3 76 = .ok (.iload 5, 2)) (lv_at hl 0 rfl) ?_
  refine va_gets hx hb hZO hS hown (hT _ okT_f_Integer_83) (fun _ h => h) (by decide +kernel : decode cJ6_getChars_ba4f3 78 = .ok (.getstatic 83, 3)) ?_
  refine lv_iload_n hx hb (by decide +kernel : decode cJ6_getChars_ba4f3 81 = .ok (.iload_n 0, 1)) rfl (lv_at hl 1 rfl) ?_
  refine lv_ineg hx hb (by decide +kernel : decode cJ6_getChars_ba4f3 82 = .ok (.ineg, 1)) ?_
  rw [n7]
  refine va_tb hx hb hTO hS (vp_in_nI hv (by decide)) (v := .int (nI (48 + v % 10))) (by rw [n8]) (by decide +kernel : decode cJ6_getChars_ba4f3 83 = .ok (.baload, 1)) ?_
  refine va_bast hx hb hK hw.1 hw.2 hS 1 0 rfl rfl (vp_in_nI (by omega) (by omega)) (by decide +kernel : decode cJ6_getChars_ba4f3 84 = .ok (.bastore, 1)) (fun H1 locs1 hP1 hD1 hS1 => ?_)
  rw [jt_dig _ e10, nI_clamp (show q < 2 ^ 31 by omega)] at hP1 hD1
  refine lv_iload_n hx hb (by decide +kernel : decode cJ6_getChars_ba4f3 85 = .ok (.iload_n 0, 1)) rfl (lv_at hl 1 rfl) ?_
  refine lv_bipush (v := -9) hx hb (by decide +kernel : decode cJ6_getChars_ba4f3 86 = .ok (.bipush (-9), 2)) (by decide) ?_
  refine lv_icmp_ge hx hb (by decide +kernel : decode cJ6_getChars_ba4f3 88 = .ok (.if_icmp .ge 16, 3)) (tgt := 104) (by decide) (fun z => ?_) (fun z => ?_)
  · have h10 : v < 10 := n5.mpr z
    refine lv_iload hx hb (by decide +kernel : decode cJ6_getChars_ba4f3 104 = .ok (.iload 6, 2)) (lv_at hl 2 rfl) ?_
    refine lv_if_eq hx hb (by decide +kernel : decode cJ6_getChars_ba4f3 106 = .ok (.ifCond .eq 12, 3)) (tgt := 118) (by decide) (fun _ => ?_) (fun z => absurd rfl z)
    refine lv_iload hx hb (by decide +kernel : decode cJ6_getChars_ba4f3 118 = .ok (.iload 5, 2)) (lv_at hl 0 rfl) ?_
    have e2 : nu v = [48 + v] := if_pos h10
    have hqp : q = P0 := by
      rw [e2] at hq
      have : P0 + 1 = q + 1 := hq
      omega
    have hfin : SBn D cB s0 sb av b0 x m9 f v P0 H1 := by
      refine ⟨_, ⟨hP1, hD1⟩, sb_fitU hfit (sb_fitB _), fun j hj => pk_un (by omega), fun i hi => ?_⟩
      rw [e2] at hi ⊢
      have hi : i < 1 := hi
      rw [show i = 0 by omega, hqp, Nat.add_zero, show v % 10 = v by omega]
      exact pk_us
    exact W.iret hx hb B.returns (fun t ht _ => ⟨_, rfl, hS1.F ht, ⟨_, rfl⟩, by rw [ht]; exact hfin⟩) hS1.2.2 (by decide +kernel : decode cJ6_getChars_ba4f3 120 = .ok (.ireturn, 1)) B.notSynchronized
  · have h10 : ¬ v < 10 := fun y => z (n5.mp y)
    have e2 : nu v = [48 + v / 10, 48 + v % 10] := if_neg h10
    have hqp : q = P0 + 1 := by
      rw [e2] at hq
      have : P0 + 2 = q + 1 := hq
      omega
    have e11 : v / 10 < 10 := by omega
    refine lv_aload_n hx hb (by decide +kernel : decode cJ6_getChars_ba4f3 91 = .ok (.aload_n 2, 1)) rfl (lv_at hl 4 rfl) ?_
    subst hqp
    refine lv_iinc (v := nI P0) hx hb (by decide +kernel : decode cJ6_getChars_ba4f3 92 = .ok (.iinc 5 (-1), 3)) hl (k := 0) rfl (pk_m1 P0) (by decide) rfl (fun ls hl => ?_)
    refine lv_iload hx hb (by decide +kernel : decode cJ6_getChars_ba4f3 95 = .ok (.iload 5, 2)) (lv_at hl 0 rfl) ?_
    refine va_gets hx hb hZT hS1 hown (hT _ okT_f_Integer_87) (fun _ h => h) (by decide +kernel : decode cJ6_getChars_ba4f3 97 = .ok (.getstatic 87, 3)) ?_
    refine lv_iload_n hx hb (by decide +kernel : decode cJ6_getChars_ba4f3 100 = .ok (.iload_n 0, 1)) rfl (lv_at hl 1 rfl) ?_
    refine lv_ineg hx hb (by decide +kernel : decode cJ6_getChars_ba4f3 101 = .ok (.ineg, 1)) ?_
    rw [n7]
    refine va_tb hx hb hTT hS1 (vp_in_nI hv (by decide)) (v := .int (nI (48 + v / 10))) (by rw [n8]) (by decide +kernel : decode cJ6_getChars_ba4f3 102 = .ok (.baload, 1)) ?_
    refine va_bast hx hb hK hP1 hD1 hS1 1 0 rfl rfl (vp_in_nI (by omega) (by omega)) (by decide +kernel : decode cJ6_getChars_ba4f3 103 = .ok (.bastore, 1)) (fun H2 locs2 hP2 hD2 hS2 => ?_)
    rw [jt_dig _ e11, nI_clamp (show P0 < 2 ^ 31 by omega)] at hP2 hD2
    refine lv_iload hx hb (by decide +kernel : decode cJ6_getChars_ba4f3 104 = .ok (.iload 6, 2)) (lv_at hl 2 rfl) ?_
    refine lv_if_eq hx hb (by decide +kernel : decode cJ6_getChars_ba4f3 106 = .ok (.ifCond .eq 12, 3)) (tgt := 118) (by decide) (fun _ => ?_) (fun z => absurd rfl z)
    refine lv_iload hx hb (by decide +kernel : decode cJ6_getChars_ba4f3 118 = .ok (.iload 5, 2)) (lv_at hl 0 rfl) ?_
    have hfin : SBn D cB s0 sb av b0 x m9 f v P0 H2 := by
      refine ⟨_, ⟨hP2, hD2⟩, sb_fitU (sb_fitU hfit (sb_fitB _)) (sb_fitB _), fun j hj => (pk_un (by omega)).trans (pk_un (by omega)), fun i hi => ?_⟩
      rw [e2] at hi ⊢
      have hi : i < 2 := hi
      by_cases y : i = 0
      · rw [y, Nat.add_zero]
        exact pk_us
      · rw [show i = 1 by omega]
        exact (pk_un (by omega)).trans pk_us
    exact W.iret hx hb B.returns (fun t ht _ => ⟨_, rfl, hS2.F ht, ⟨_, rfl⟩, by rw [ht]; exact hfin⟩) hS2.2.2 (by decide +kernel : decode cJ6_getChars_ba4f3 120 = .ok (.ireturn, 1)) B.notSynchronized
end JT6
