/-! THE TEXT: a longer row, and room ensured -/
section JT3
variable {l : Launch} {D : va_G} {cB : ClassId} {s0 : State} {a0 : Array Value} {sb av : Nat} {b0 : Int32} {n m9 : Nat} {f : Nat → Int32} {Wd : Heap → Prop}
theorem va_P.nil {H : Heap} : va_P D tCl [] H := fun k q h => by
  rw [List.getElem?_nil] at h
  cases h
theorem va_D.nil {A : Nat → Prop} : va_D A [] := by
  refine ⟨fun i j p q h => ?_, fun k q h => ?_⟩
  · rw [List.getElem?_nil] at h
    cases h
  · rw [List.getElem?_nil] at h
    cases h
/-- the builder's cells and one more, fresh -/
abbrev SBx (D : va_G) (cB : ClassId) (s0 : State) (sb av : Nat) (b0 n : Int32) (m : Nat) (f : Nat → Int32) (q k : Nat) (g : Nat → Int32) (H : Heap) : Prop := va_P D tCl (sbW cB sb av b0 n m f ++ [(q, .inl (cB, k, .inl g))]) H ∧ va_D (tA s0) (sbW cB sb av b0 n m f ++ [(q, .inl (cB, k, .inl g))])
theorem sb_more {s : State} {H1 : Heap} {x : Int32} {q k : Nat} {g : Nat → Int32} {locs : List Loc} (h0 : va_S (tA s0) s0.heap s.heap []) (hw : SBc D cB s0 sb av b0 x m9 f s.heap) (hS : va_S (tA s) s.heap H1 locs) (hP : va_P D tCl [(q, .inl (cB, k, .inl g))] H1) (hD : va_D (tA s) [(q, .inl (cB, k, .inl g))]) : SBx D cB s0 sb av b0 x m9 f q k g H1 := by
  have hlt : ∀ (i : Nat) (p : Nat × va_E), (sbW cB sb av b0 x m9 f)[i]? = some p → p.1 < s.heap.size := fun i p hp => (hw.1 i p hp).lt
  have hq : s.heap.size ≤ q := hD.2 0 _ rfl
  refine ⟨(hw.1.kept (fun i p hp => hS.2.1 p.1 (hlt i p hp) (Nat.not_le.mpr (hlt i p hp)))).app hP, hw.2.app ⟨hD.1, fun i p hp => Nat.le_trans h0.1 (hD.2 i p hp)⟩ (fun i j p p' hp hp' e => ?_)⟩
  have h1 := hlt i p hp
  have h2 : tA s p'.1 := hD.2 j p' hp'
  have h2 : s.heap.size ≤ p'.1 := h2
  omega
theorem jt_copyOf (hF : tFx D cB s0 a0) {x : Int32} {k : Nat} (h1 : m9 < k) (h2 : k < 65536) (hfit : sb_Fit f) : tMet l yJ7_copyOf_9075b cJ7_copyOf_9075b 3 (some (.array .byte)) 1 40 1 k s0 [.ref av, .int (nI k)] (SBc D cB s0 sb av b0 x m9 f) (fun v H => ∃ q g, v = some (.ref q) ∧ SBx D cB s0 sb av b0 x m9 f q k g H ∧ sb_Fit g ∧ ∀ j, j < m9 → g j = f j) := by
  refine Met.ofW (by decide) rfl fun p e s m args below meth c s₁ B hml hP => ?_
  obtain ⟨rfl, hW, hS0, hw⟩ := hP
  have hx := B.exec
  have hb := B.bytes
  have hT := pj_at hF.1 hW #[Value.ref av, Value.int (nI k)]
  have hTS := TS_at hF.1 hW #[Value.ref av, Value.int (nI k)]
  have hK := va_K.moved hW.alike hF.2.1
  have hZ := (va_Z.moved hW.alike hF.2.2).kept hS0.2.1
  have hown := findClass_of_methodNamed B.named
  have hS : va_S (tA s0) s.heap s.heap [] := va_S.rf
  have hA : ∀ q : Nat, s.heap.size ≤ q → tA s0 q := fun q h => Nat.le_trans hS0.1 h
  have hpre : ∀ {H1 : Heap} {locs1 : List Loc} {Wd : Heap → Prop}, va_S (tA s0) s.heap H1 locs1 → Wd H1 → ∀ (av : List Value) (U : State), U.heap = H1 → s.WarmedH U.vm → tP s0 av Wd av.toArray U := fun hS1 hw1 av U hU hWU => ⟨rfl, State.WarmedH.trans hW hWU, by rw [hU]; exact pas_nil (pas_trans hS0 hS1), by rw [hU]; exact hw1⟩
  have hl := lv_entry [.ref av, .int (nI k)] (n := 3) (Nat.le_of_ble_eq_true rfl)
  rw [lg_entry_eq]
  generalize (lg_sl [.ref av, .int (nI k)] ++ List.replicate (3 - (lg_sl [.ref av, .int (nI k)]).length) Slot.unset).toArray = ls at hl ⊢
  have hl : lv_has ls 3 [(0, .ref av), (1, .int (nI k))] := hl
  refine lv_iload_n hx hb (by decide +kernel : decode cJ7_copyOf_9075b 0 = .ok (.iload_n 1, 1)) rfl (lv_at hl 1 rfl) ?_
  refine lv_aload_n hx hb (by decide +kernel : decode cJ7_copyOf_9075b 1 = .ok (.aload_n 0, 1)) rfl (lv_at hl 0 rfl) ?_
  refine va_alen (v := nI m9) hx hb hK hw.1 1 0 rfl rfl rfl (by decide +kernel : decode cJ7_copyOf_9075b 2 = .ok (.arraylength, 1)) ?_
  refine lv_icmp_ne hx hb (by decide +kernel : decode cJ7_copyOf_9075b 3 = .ok (.if_icmp .ne 11, 3)) (tgt := 14) (by decide) (fun _ => ?_) (fun q => absurd ((nI_eq (by omega) (by omega)).mp (show nI k = nI m9 from q)) (by omega))
  refine lv_iload_n hx hb (by decide +kernel : decode cJ7_copyOf_9075b 14 = .ok (.iload_n 1, 1)) rfl (lv_at hl 1 rfl) ?_
  refine va_newa (atype := .byte) (N' := k) (a0 := (k, .inl (fun _ => 0))) hx hb (hT _ okA_byte) rfl hK va_P.nil va_D.nil (va_S.rf (A := tA s)) (fun q h => h) (fun cA => rfl) (nI_pos (by omega)) (nI_clamp (by omega)) (by show k * 1 ≤ 536870912; omega) (Nat.le_refl _) (by show 0 + k ≤ k; omega) (by decide +kernel : decode cJ7_copyOf_9075b 15 = .ok (.newarray .byte, 2)) (fun q cA H1 hK1 hP1 hD1 hS1 => ?_)
  have hcA := tB_eq hK1
  rw [hcA] at hP1 hD1
  refine lv_astore_n hx hb (by decide +kernel : decode cJ7_copyOf_9075b 17 = .ok (.astore_n 2, 1)) rfl hl (by decide) rfl (fun ls hl => ?_)
  refine lv_aload_n hx hb (by decide +kernel : decode cJ7_copyOf_9075b 18 = .ok (.aload_n 0, 1)) rfl (lv_at hl 1 rfl) ?_
  refine lv_iconst (v := 0) hx hb (by decide +kernel : decode cJ7_copyOf_9075b 19 = .ok (.iconst 0, 1)) rfl ?_
  refine lv_aload_n hx hb (by decide +kernel : decode cJ7_copyOf_9075b 20 = .ok (.aload_n 2, 1)) rfl (lv_at hl 0 rfl) ?_
  refine lv_iconst (v := 0) hx hb (by decide +kernel : decode cJ7_copyOf_9075b 21 = .ok (.iconst 0, 1)) rfl ?_
  refine lv_aload_n hx hb (by decide +kernel : decode cJ7_copyOf_9075b 22 = .ok (.aload_n 0, 1)) rfl (lv_at hl 1 rfl) ?_
  have hm := sb_more hS0 hw hS1 hP1 hD1
  refine va_alen (v := nI m9) hx hb hK hm.1 1 0 rfl rfl rfl (by decide +kernel : decode cJ7_copyOf_9075b 23 = .ok (.arraylength, 1)) ?_
  refine lv_iload_n hx hb (by decide +kernel : decode cJ7_copyOf_9075b 24 = .ok (.iload_n 1, 1)) rfl (lv_at hl 2 rfl) ?_
  refine va_mmin hx hb (hml.trans hl.1.symm) hown (hT _ okT_l_Arrays_304) (hT _ okJ_mn) (hT _ okJ_im) (hT _ okJ_cn) (Nat.le_refl _) (by show 1 + (1 + (1 + (1 + 0))) + 13 ≤ 40; decide) (Nat.le_refl _) (by show 0 + k ≤ k; omega) (by decide +kernel : decode cJ7_copyOf_9075b 25 = .ok (.invokestatic 304, 3)) ?_
  rw [if_neg (show ¬ nI k < nI m9 from nI_nlt (by omega) (by omega))]
  refine vk_copyt (n0 := m9) (f := f) hx hb (hml.trans hl.1.symm) hown (hT _ okT_l_Arrays_150) (hT _ okJ_an) (hT _ okJ_ac) (hT _ okJ_is) hK hP1 hD1 hS1 (jt_T hK hw.1 (k := 1) rfl (A := tA s) (fun h => absurd (hw.1 1 _ rfl).lt (Nat.not_lt.mpr h))) 0 0 rfl rfl (by decide) (by decide) (nI_pos (by omega)) (by rw [sb_cl0, nI_clamp (by omega)]; omega) (by rw [sb_cl0, nI_clamp (by omega)]; omega) (fun i _ => hfit _) (Nat.le_refl _) (by show 0 + _ ≤ 40; decide +kernel) (by decide +kernel : decode cJ7_copyOf_9075b 28 = .ok (.invokestatic 150, 3)) (fun H2 locs2 hP2 hD2 hS2 => ?_)
  refine lv_aload_n hx hb (by decide +kernel : decode cJ7_copyOf_9075b 31 = .ok (.aload_n 2, 1)) rfl (lv_at hl 0 rfl) ?_
  have hm2 := sb_more hS0 hw hS2 hP2 hD2
  refine W.widen (k := 1) (n := k) (Nat.le_refl _) (by show 0 + k ≤ k; omega) ?_
  refine W.aret hx hb B.returns (Or.inr ⟨_, rfl⟩) (Or.inr ⟨_, rfl⟩) (fun t ht _ => ⟨_, rfl, (hS2.mono (fun q h => hA q h)).F ht, _, _, rfl, by rw [ht]; exact hm2, ?_, fun j hj => ?_⟩) (fun q h => hA _ (hS2.2.2 q h)) (by decide +kernel : decode cJ7_copyOf_9075b 32 = .ok (.areturn, 1)) B.notSynchronized
  · exact sb_fitC hfit sb_fit0
  · rw [sb_cl0, show (nI m9).toNatClampNeg = m9 from nI_clamp (by omega)]
    exact sb_cpy0 hj
/-- the room of a builder behind a call that needs so many letters -/
def capJ (need m : Nat) : Nat := if need ≤ m then m else m + (if need - m < m + 2 then m + 2 else need - m)
theorem capJ_ge (need m : Nat) : need ≤ capJ need m ∧ m ≤ capJ need m := by
  unfold capJ
  split <;> (try split) <;> omega
theorem capJ_le {need m : Nat} (h1 : need ≤ 800) (h2 : m ≤ 1602) : capJ need m ≤ 1602 := by
  unfold capJ
  split <;> (try split) <;> omega
/-- what stands behind: the letters that were there, in a row with room -/
def SBk (D : va_G) (cB : ClassId) (s0 : State) (sb : Nat) (b0 n : Int32) (m : Nat) (k : Nat) (f : Nat → Int32) (H : Heap) : Prop := ∃ (av : Nat) (g : Nat → Int32), SBc D cB s0 sb av b0 n k g H ∧ sb_Fit g ∧ ∀ j, j < m → g j = f j
theorem jt_ens (hF : tFx D cB s0 a0) {x : Int32} {need : Nat} (h1 : need ≤ 800) (h2 : m9 ≤ 1602) (hfit : sb_Fit f) : tMet l yJ5_ensureCapacityInternal_d00df cJ5_ensureCapacityInternal_d00df 3 none 3 100 1 1602 s0 [.ref sb, .int (nI need)] (SBc D cB s0 sb av b0 x m9 f) (fun v H => v = none ∧ SBk D cB s0 sb b0 x m9 (capJ need m9) f H) := by
  refine Met.ofW (by decide) rfl fun p e s m args below meth c s₁ B hml hP => ?_
  obtain ⟨rfl, hW, hS0, hw⟩ := hP
  have hx := B.exec
  have hb := B.bytes
  have hT := pj_at hF.1 hW #[Value.ref sb, Value.int (nI need)]
  have hTS := TS_at hF.1 hW #[Value.ref sb, Value.int (nI need)]
  have hK := va_K.moved hW.alike hF.2.1
  have hZ := (va_Z.moved hW.alike hF.2.2).kept hS0.2.1
  have hown := findClass_of_methodNamed B.named
  have hS : va_S (tA s0) s.heap s.heap [] := va_S.rf
  have hA : ∀ q : Nat, s.heap.size ≤ q → tA s0 q := fun q h => Nat.le_trans hS0.1 h
  have hpre : ∀ {H1 : Heap} {locs1 : List Loc} {Wd : Heap → Prop}, va_S (tA s0) s.heap H1 locs1 → Wd H1 → ∀ (av : List Value) (U : State), U.heap = H1 → s.WarmedH U.vm → tP s0 av Wd av.toArray U := fun hS1 hw1 av U hU hWU => ⟨rfl, State.WarmedH.trans hW hWU, by rw [hU]; exact pas_nil (pas_trans hS0 hS1), by rw [hU]; exact hw1⟩
  have hl := lv_entry [.ref sb, .int (nI need)] (n := 3) (Nat.le_of_ble_eq_true rfl)
  rw [lg_entry_eq]
  generalize (lg_sl [.ref sb, .int (nI need)] ++ List.replicate (3 - (lg_sl [.ref sb, .int (nI need)]).length) Slot.unset).toArray = ls at hl ⊢
  have hl : lv_has ls 3 [(0, .ref sb), (1, .int (nI need))] := hl
  have hcap := capJ_le h1 h2
  refine lv_aload_n hx hb (by decide +kernel : decode cJ5_ensureCapacityInternal_d00df 0 = .ok (.aload_n 0, 1)) rfl (lv_at hl 0 rfl) ?_
  refine va_get (D := D) (ci := 0) (v := .ref av) (C := RJ4) (T := TJ4) (N := 4) hx hb hT jt_ws4 hown hK hw.1 0 rfl rfl 0 (by decide) (hT _ okT_f_AbstractStringBuilder_15) (fun _ h => h) rfl (by decide +kernel : decode cJ5_ensureCapacityInternal_d00df 1 = .ok (.getfield 15, 3)) ?_
  refine va_alen (v := nI m9) hx hb hK hw.1 1 0 rfl rfl rfl (by decide +kernel : decode cJ5_ensureCapacityInternal_d00df 4 = .ok (.arraylength, 1)) ?_
  refine lv_aload_n hx hb (by decide +kernel : decode cJ5_ensureCapacityInternal_d00df 5 = .ok (.aload_n 0, 1)) rfl (lv_at hl 0 rfl) ?_
  refine va_get (D := D) (ci := 0) (v := .int 0) (C := RJ4) (T := TJ4) (N := 4) hx hb hT jt_ws4 hown hK hw.1 0 rfl rfl 1 (by decide) (hT _ okT_f_AbstractStringBuilder_22) (fun _ h => h) rfl (by decide +kernel : decode cJ5_ensureCapacityInternal_d00df 6 = .ok (.getfield 22, 3)) ?_
  refine lv_ishr hx hb (by decide +kernel : decode cJ5_ensureCapacityInternal_d00df 9 = .ok (.ishr, 1)) ?_
  rw [sb_shr0]
  refine lv_istore_n hx hb (by decide +kernel : decode cJ5_ensureCapacityInternal_d00df 10 = .ok (.istore_n 2, 1)) rfl hl (by decide) rfl (fun ls hl => ?_)
  refine lv_iload_n hx hb (by decide +kernel : decode cJ5_ensureCapacityInternal_d00df 11 = .ok (.iload_n 1, 1)) rfl (lv_at hl 2 rfl) ?_
  refine lv_iload_n hx hb (by decide +kernel : decode cJ5_ensureCapacityInternal_d00df 12 = .ok (.iload_n 2, 1)) rfl (lv_at hl 0 rfl) ?_
  refine lv_isub hx hb (by decide +kernel : decode cJ5_ensureCapacityInternal_d00df 13 = .ok (.isub, 1)) ?_
  have e1 : (nI need - nI m9).toInt = (need : Int) - m9 := pk_sub_toInt (by omega) (by omega)
  refine lv_if_le hx hb (by decide +kernel : decode cJ5_ensureCapacityInternal_d00df 14 = .ok (.ifCond .le 24, 3)) (tgt := 38) (by decide) (fun q => ?_) (fun q => ?_)
  · have hle : need ≤ m9 := by
      rw [Int32.le_iff_toInt_le, e1, Int32.toInt_zero] at q
      omega
    have ec : capJ need m9 = m9 := if_pos hle
    rw [ec]
    refine W.widen (k := 1) (n := 1602) (by decide) (by decide) ?_
    exact W.vret hx hb B.returns (fun t ht _ => ⟨_, rfl, hS.F ht, rfl, by rw [ht]; exact ⟨_, _, hw, hfit, fun _ _ => rfl⟩⟩) (fun q h => by cases h) (by decide +kernel : decode cJ5_ensureCapacityInternal_d00df 38 = .ok (.return_, 1)) B.notSynchronized
  · have hlt : m9 < need := by
      rw [Int32.le_iff_toInt_le, e1, Int32.toInt_zero] at q
      omega
    have ec : capJ need m9 = m9 + (if need - m9 < m9 + 2 then m9 + 2 else need - m9) := if_neg (by omega)
    have hge := capJ_ge need m9
    refine lv_aload_n hx hb (by decide +kernel : decode cJ5_ensureCapacityInternal_d00df 17 = .ok (.aload_n 0, 1)) rfl (lv_at hl 1 rfl) ?_
    refine lv_aload_n hx hb (by decide +kernel : decode cJ5_ensureCapacityInternal_d00df 18 = .ok (.aload_n 0, 1)) rfl (lv_at hl 1 rfl) ?_
    refine va_get (D := D) (ci := 0) (v := .ref av) (C := RJ4) (T := TJ4) (N := 4) hx hb hT jt_ws4 hown hK hw.1 0 rfl rfl 0 (by decide) (hT _ okT_f_AbstractStringBuilder_15) (fun _ h => h) rfl (by decide +kernel : decode cJ5_ensureCapacityInternal_d00df 19 = .ok (.getfield 15, 3)) ?_
    refine lv_aload_n hx hb (by decide +kernel : decode cJ5_ensureCapacityInternal_d00df 22 = .ok (.aload_n 0, 1)) rfl (lv_at hl 1 rfl) ?_
    refine lv_iload_n hx hb (by decide +kernel : decode cJ5_ensureCapacityInternal_d00df 23 = .ok (.iload_n 1, 1)) rfl (lv_at hl 2 rfl) ?_
    refine t_use (va_runV (C := RJ4) (Ts := TG) (As := [.int (nI need)]) (n := 1) (nL := 3) (rest := [.ref av, .ref sb]) ⟨hx, hb, hml, hown, hT⟩ (jt_cap hF (x := x) (need := need) hlt (by omega)) ⟨pj_cb hT okT_J5_newCapacity_0f7a4_c okT_i_java_lang_AbstractStringBuilder okT_l_AbstractStringBuilder_104 ⟨by decide, by decide, by decide +kernel⟩ ⟨by decide, by decide⟩, hT _ okT_J5_newCapacity_0f7a4_i, hTS _ (tsm 1 rfl)⟩ ⟨tP_blind, va_recv hK hw.1 (ci := 0) (q0 := 0) rfl rfl, hpre hS hw _⟩ rfl rfl hl.1 rfl (by show 2 * 0 + (1 + (1 + 0)) ≤ 8; decide) (by decide +kernel : decode cJ5_ensureCapacityInternal_d00df 24 = .ok (.invokevirtual 104, 3)) ⟨by decide, by decide⟩) hS (fun v H1 locs1 hv hS => ?_)
    obtain ⟨rfl, hw⟩ := hv
    refine lv_aload_n hx hb (by decide +kernel : decode cJ5_ensureCapacityInternal_d00df 27 = .ok (.aload_n 0, 1)) rfl (lv_at hl 1 rfl) ?_
    refine va_get (D := D) (ci := 0) (v := .int 0) (C := RJ4) (T := TJ4) (N := 4) hx hb hT jt_ws4 hown hK hw.1 0 rfl rfl 1 (by decide) (hT _ okT_f_AbstractStringBuilder_22) (fun _ h => h) rfl (by decide +kernel : decode cJ5_ensureCapacityInternal_d00df 28 = .ok (.getfield 22, 3)) ?_
    refine lv_ishl hx hb (by decide +kernel : decode cJ5_ensureCapacityInternal_d00df 31 = .ok (.ishl, 1)) ?_
    rw [sb_shl0, ← ec]
    refine W.widen (k := 0) (n := 0) (by decide) (by decide) ?_
    refine t_use (va_runS (Ts := TG) (As := [.ref av, .int (nI (capJ need m9))]) (n := 2) (nL := 3) (rest := [.ref sb]) ⟨hx, hb, hml, hown, hT⟩ (jt_copyOf hF (x := x) (k := capJ need m9) (by omega) (by omega) hfit) ⟨pj_cb hT okT_J7_copyOf_9075b_c okT_i_java_util_Arrays okT_l_AbstractStringBuilder_108 ⟨by decide, by decide, by decide +kernel⟩ ⟨by show 1 + 1 ≤ 3; decide, by show 8 + (3 + 11) + 40 ≤ 100; decide⟩, hT _ okT_J7_copyOf_9075b_s⟩ ⟨tP_blind, hpre hS hw _⟩ rfl rfl hl.1 rfl (by show 2 * 0 + (1 + 0) ≤ 8; decide) (by decide +kernel : decode cJ5_ensureCapacityInternal_d00df 32 = .ok (.invokestatic 108, 3)) ⟨by show 0 + 1 ≤ 1; decide, by show 0 + capJ need m9 ≤ 1602; omega⟩) hS (fun v H1 locs1 hv hS => ?_)
    obtain ⟨q1, g, rfl, hw1, hfg, hg⟩ := hv
    refine va_put (D := D) (ci := 0) (v := .ref q1) (ty := .array .byte) (C := RJ4) (T := TJ4) (N := 4) hx hb hT jt_ws4 tyJ4 tyJ4_ok nmJ4 hown hK hw1.1 hw1.2 hS 0 rfl rfl 0 (by decide) (hT _ okT_f_AbstractStringBuilder_15) (fun _ h => h) rfl (by decide +kernel) rfl rfl (by show 0 < 4; decide) (by decide +kernel : decode cJ5_ensureCapacityInternal_d00df 35 = .ok (.putfield 15, 3)) (fun H2 locs2 hP2 hD2 hS2 => ?_)
    refine W.widen (k := 1) (n := 1602) (by decide) (by show 0 + capJ need m9 ≤ 1602; omega) ?_
    exact W.vret hx hb B.returns (fun t ht _ => ⟨_, rfl, hS2.F ht, rfl, by rw [ht]; exact ⟨q1, g, ⟨hP2.sub (ws' := sbW cB sb q1 b0 x (capJ need m9) g) [0, 2] rfl, hD2.sub (ws' := sbW cB sb q1 b0 x (capJ need m9) g) [0, 2] (by decide) rfl⟩, hfg, hg⟩⟩) hS2.2.2 (by decide +kernel : decode cJ5_ensureCapacityInternal_d00df 38 = .ok (.return_, 1)) B.notSynchronized
end JT3
