/-! THE TEXT: StringBuilder(String); the law's cell and name -/
set_option maxRecDepth 100000 in
theorem okC_47 : Cond.classLink "PinBarrelLaw" 47 "java/lang/StringBuilder" ∈ TG := tg 538 rfl rfl
/-- the law's strings: their numbers, texts and letters -/
def lwS : List (Nat × String × List Nat) := [(49, "barrel ", [98, 97, 114, 114, 101, 108, 32]), (60, ";speed ", [59, 115, 112, 101, 101, 100, 32]), (65, ";tooth ", [59, 116, 111, 111, 116, 104, 32]), (33, "c 0 ", [99, 32, 48, 32]), (35, "d 0 ", [100, 32, 48, 32]), (37, "e 0 ", [101, 32, 48, 32]), (39, "c 1 ", [99, 32, 49, 32]), (71, ";note ", [59, 110, 111, 116, 101, 32]), (73, ";pin ", [59, 112, 105, 110, 32])]
def lwI (i : Nat) : Nat := (lwS.getD i (0, "", [])).1
def lwJ (i : Nat) : String := (lwS.getD i (0, "", [])).2.1
def lwT (i : Nat) : List Nat := (lwS.getD i (0, "", [])).2.2
theorem lwT_ok : ∀ i, i < 9 → pch (lwT i) ∧ (lwT i).length ≤ 7 := by
  unfold pch
  decide +kernel
theorem lwT_nm : ∀ q, q < 4 → lwT (3 + q) = nmS q ++ 32 :: (nu (oc q) ++ [32]) := by decide +kernel
theorem l_te {q r : Nat} (hq : q < 4) : lwT 2 ++ (lwT (3 + q) ++ nu r) = encs [(1, q, r, 0)] := by
  rw [lwT_nm q hq]
  show (59 :: (wToo ++ [32])) ++ ((nmS q ++ 32 :: (nu (oc q) ++ [32])) ++ nu r) = 59 :: ((wToo ++ 32 :: (nmS q ++ 32 :: (nu (oc q) ++ 32 :: nu r))) ++ ([] ++ []))
  simp
theorem l_no {u z q : Nat} (hq : q < 4) : lwT 7 ++ (nu u ++ ([32] ++ (nu z ++ ([32] ++ lwT (3 + q))))) = encs [(2, u, z, q)] := by
  rw [lwT_nm q hq]
  show (59 :: (wNot ++ [32])) ++ (nu u ++ ([32] ++ (nu z ++ ([32] ++ (nmS q ++ 32 :: (nu (oc q) ++ [32])))))) = 59 :: ((wNot ++ 32 :: (nu u ++ 32 :: (nu z ++ 32 :: (nmS q ++ 32 :: nu (oc q))))) ++ ([32] ++ []))
  simp
theorem l_pi {u z t : Nat} : lwT 8 ++ (nu u ++ ([32] ++ (nu z ++ ([32] ++ nu t)))) = encs [(3, u, z, t)] := by
  show (59 :: (wPin ++ [32])) ++ (nu u ++ ([32] ++ (nu z ++ ([32] ++ nu t)))) = 59 :: ((wPin ++ 32 :: (nu u ++ 32 :: (nu z ++ 32 :: nu t))) ++ ([] ++ []))
  simp
theorem nI_rem {x y : Nat} (ha : x < 2147483648) (h0 : 0 < y) (hb : y < 2147483648) : nI x - nI x / nI y * nI y = nI (x % y) := by
  have e : ∀ k : Nat, nI k = Int32.ofInt (k : Int) := fun k => Int32.ofInt_eq_ofNat.symm
  have hx : bd (x : Int) := ⟨by omega, by omega⟩
  have hy : bd (y : Int) := ⟨by omega, by omega⟩
  rw [e x, e y, e (x % y), ← Int32.ofInt_tdiv (bd_mm hx).1 (bd_mm hx).2 (bd_mm hy).1 (bd_mm hy).2, ← Int32.ofInt_mul, ← Int32.ofInt_sub, Int.natCast_emod, ← Int.tmod_eq_emod_of_nonneg (show (0 : Int) ≤ (x : Int) by omega), Int.tmod_def, Int.mul_comm (y : Int)]
theorem c_rem (x : Int32) : x - x / 100000 * 100000 = Int32.ofInt (x.toInt.tmod 100000) := by
  have hx := bd_toInt x
  have hy : bd 100000 := ⟨by decide, by decide⟩
  have e : (100000 : Int32) = Int32.ofInt 100000 := by decide +kernel
  conv => lhs; rw [← Int32.ofInt_toInt x]
  rw [e, ← Int32.ofInt_tdiv (bd_mm hx).1 (bd_mm hx).2 (bd_mm hy).1 (bd_mm hy).2, ← Int32.ofInt_mul, ← Int32.ofInt_sub, Int.tmod_def, Int.mul_comm 100000]
theorem abs_nI {z : Int} (h : -100000 < z ∧ z < 100000) : (if 0 ≤ Int32.ofInt z then Int32.ofInt z else 0 - Int32.ofInt z) = nI z.natAbs := by
  have e : (Int32.ofInt z).toInt = z := toInt_iv ⟨by omega, by omega⟩
  have e0 : (0 : Int32) ≤ Int32.ofInt z ↔ 0 ≤ z := by rw [Int32.le_iff_toInt_le, e, show (0 : Int32).toInt = 0 from by decide]
  by_cases q : 0 ≤ z
  · rw [if_pos (e0.mpr q)]
    show Int32.ofInt z = Int32.ofNat z.natAbs
    rw [← Int32.ofInt_eq_ofNat, show ((z.natAbs : Nat) : Int) = z from by omega]
  · rw [if_neg (fun y => q (e0.mp y))]
    show _ = Int32.ofNat z.natAbs
    rw [← Int32.ofInt_eq_ofNat, show ((z.natAbs : Nat) : Int) = 0 - z from by omega, Int32.ofInt_sub]
    rfl
section JT19
variable {l : Launch} {D : va_G} {cB : ClassId} {s0 : State} {a0 : Array Value} {sb av dO dT ad as9 st b sn : Nat} {sf : Nat → Int32} {b0 : Int32} {n m9 : Nat} {f : Nat → Int32} {Wd : Heap → Prop} {t9 u9 : List Nat} {ws : va_W}
theorem jt_in4 (hF : tFx D cB s0 a0) (hE : pSt u9 ad as9 (tA s0) s0 s0.heap) (hc9 : pch u9) (h1 : u9.length ≤ 100) : tMet l yJ4_init_a7421 cJ4_init_a7421 2 none 8 270 2 1802 s0 [.ref sb, .ref ad] (WS D s0 [(sb, .inr (0, [.null, .int 0, .int 0, .int 0]))]) (fun r H => r = none ∧ SBt D cB s0 sb 0 u9 (u9.length + 16) H) := by
  refine Met.ofW (by decide) rfl fun p e s m args below meth c s₁ B hml hP => ?_
  obtain ⟨rfl, hW, hS0, hw⟩ := hP
  have hx := B.exec
  have hb := B.bytes
  have hT := pj_at hF.1 hW #[Value.ref sb, Value.ref ad]
  have hTS := TS_at hF.1 hW #[Value.ref sb, Value.ref ad]
  have hK := va_K.moved hW.alike hF.2.1
  have hZ := (va_Z.moved hW.alike hF.2.2).kept hS0.2.1
  have hown := findClass_of_methodNamed B.named
  have hS : va_S (tA s0) s.heap s.heap [] := va_S.rf
  have hA : ∀ q : Nat, s.heap.size ≤ q → tA s0 q := fun q h => Nat.le_trans hS0.1 h
  have hpre : ∀ {H1 : Heap} {locs1 : List Loc} {Wd : Heap → Prop}, va_S (tA s0) s.heap H1 locs1 → Wd H1 → ∀ (av : List Value) (U : State), U.heap = H1 → s.WarmedH U.vm → tP s0 av Wd av.toArray U := fun hS1 hw1 av U hU hWU => ⟨rfl, State.WarmedH.trans hW hWU, by rw [hU]; exact pas_nil (pas_trans hS0 hS1), by rw [hU]; exact hw1⟩
  have hl := lv_entry [.ref sb, .ref ad] (n := 2) (Nat.le_of_ble_eq_true rfl)
  rw [lg_entry_eq]
  generalize (lg_sl [.ref sb, .ref ad] ++ List.replicate (2 - (lg_sl [.ref sb, .ref ad]).length) Slot.unset).toArray = ls at hl ⊢
  have hl : lv_has ls 2 [(0, .ref sb), (1, .ref ad)] := hl
  refine lv_aload_n hx hb (by decide +kernel : decode cJ4_init_a7421 0 = .ok (.aload_n 0, 1)) rfl (lv_at hl 0 rfl) ?_
  refine lv_aload_n hx hb (by decide +kernel : decode cJ4_init_a7421 1 = .ok (.aload_n 1, 1)) rfl (lv_at hl 1 rfl) ?_
  refine t_use (va_runI (Ts := TG) (As := [.ref ad]) (n := 1) (nL := 2) (rest := []) ⟨hx, hb, hml, hown, hT⟩ (jt_in5 hF hE hc9 h1) ⟨pj_cb hT okT_J5_init_a7421_c okT_i_java_lang_AbstractStringBuilder okT_l_StringBuilder_7 ⟨by decide, by decide, by decide +kernel⟩ ⟨by show 7 + 1 ≤ 8; decide, by show 8 + (5 + 11) + 240 ≤ 270; decide⟩, rfl, hT _ okT_J5_init_a7421_i⟩ ⟨tP_blind, hpre hS hw [.ref sb, .ref ad]⟩ rfl rfl hl.1 rfl (by show 2 * 0 + 0 ≤ 8; decide) (by decide +kernel : decode cJ4_init_a7421 2 = .ok (.invokespecial 7, 3)) ⟨by decide, by decide⟩) hS (fun r H1 locs1 hv hS => ?_)
  obtain ⟨rfl, hw⟩ := hv
  refine W.widen (k := 2) (n := 1802) (by decide) (by decide) ?_
  exact W.vret hx hb B.returns (fun t ht _ => ⟨_, rfl, hS.F ht, rfl, by rw [ht]; exact hw⟩) hS.2.2 (by decide +kernel : decode cJ4_init_a7421 5 = .ok (.return_, 1)) B.notSynchronized
theorem jt_cell (hF : tFx D cB s0 a0) (hX0 : va_X b sn sf s0 s0.heap ∧ b < s0.heap.size ∧ sn < 2147483648) {i : Nat} (hi : i < 1000) : tMet l yL_cell cL_cell 2 (some .int) 1 30 0 0 s0 [.ref b, .int (nI i)] Wd (fun r H => r = some (.int (nI (cv sn sf i))) ∧ Wd H) := by
  refine Met.ofW (by decide) rfl fun p e s m args below meth c s₁ B hml hP => ?_
  obtain ⟨rfl, hW, hS0, hw⟩ := hP
  have hx := B.exec
  have hb := B.bytes
  have hT := pj_at hF.1 hW #[Value.ref b, Value.int (nI i)]
  have hTS := TS_at hF.1 hW #[Value.ref b, Value.int (nI i)]
  have hK := va_K.moved hW.alike hF.2.1
  have hZ := (va_Z.moved hW.alike hF.2.2).kept hS0.2.1
  have hown := findClass_of_methodNamed B.named
  have hS : va_S (tA s0) s.heap s.heap [] := va_S.rf
  have hA : ∀ q : Nat, s.heap.size ≤ q → tA s0 q := fun q h => Nat.le_trans hS0.1 h
  have hpre : ∀ {H1 : Heap} {locs1 : List Loc} {Wd : Heap → Prop}, va_S (tA s0) s.heap H1 locs1 → Wd H1 → ∀ (av : List Value) (U : State), U.heap = H1 → s.WarmedH U.vm → tP s0 av Wd av.toArray U := fun hS1 hw1 av U hU hWU => ⟨rfl, State.WarmedH.trans hW hWU, by rw [hU]; exact pas_nil (pas_trans hS0 hS1), by rw [hU]; exact hw1⟩
  have hl := lv_entry [.ref b, .int (nI i)] (n := 2) (Nat.le_of_ble_eq_true rfl)
  rw [lg_entry_eq]
  generalize (lg_sl [.ref b, .int (nI i)] ++ List.replicate (2 - (lg_sl [.ref b, .int (nI i)]).length) Slot.unset).toArray = ls at hl ⊢
  have hl : lv_has ls 2 [(0, .ref b), (1, .int (nI i))] := hl
  have hbA : ¬ tA s0 b := Nat.not_le.mpr hX0.2.1
  have hX : va_X b sn sf s s.heap := va_X.moved hW.alike (va_X.kept hX0.1 (hS0.2.1 b hX0.2.1 hbA))
  have hbl : b < s.heap.size := Nat.lt_of_lt_of_le hX0.2.1 hS0.1
  refine lv_aload_n hx hb (by decide +kernel : decode cL_cell 0 = .ok (.aload_n 0, 1)) rfl (lv_at hl 0 rfl) ?_
  refine va_slen hx hb hX hbl hbA hS (by decide +kernel : decode cL_cell 1 = .ok (.arraylength, 1)) ?_
  by_cases q : sn = 0
  · have ec : cv sn sf i = 0 := if_pos q
    rw [ec]
    refine lv_if_ne hx hb (by decide +kernel : decode cL_cell 2 = .ok (.ifCond .ne 7, 3)) (tgt := 9) (by decide) (fun q2 => absurd (by rw [q]; rfl) q2) fun _ => ?_
    refine lv_iconst hx hb (by decide +kernel : decode cL_cell 5 = .ok (.iconst 0, 1)) (v := nI 0) rfl ?_
    refine lv_goto hx hb (by decide +kernel : decode cL_cell 6 = .ok (.goto 15, 3)) (tgt := 21) (by decide) ?_
    exact W.iret hx hb B.returns (fun t ht _ => ⟨_, rfl, hS.F ht, rfl, by rw [ht]; exact hw⟩) hS.2.2 (by decide +kernel : decode cL_cell 21 = .ok (.ireturn, 1)) B.notSynchronized
  · have ec : cv sn sf i = ((sf (i % sn)).toInt.tmod 100000).natAbs := if_neg q
    rw [ec]
    have hp : 0 < sn := Nat.pos_of_ne_zero q
    have h2 : ¬ Int32.ofNat sn = 0 := nI_ne0 hp hX0.2.2
    have hlt := Nat.mod_lt i hp
    refine lv_if_ne hx hb (by decide +kernel : decode cL_cell 2 = .ok (.ifCond .ne 7, 3)) (tgt := 9) (by decide) (fun _ => ?_) fun q2 => absurd q2 h2
    refine lv_aload_n hx hb (by decide +kernel : decode cL_cell 9 = .ok (.aload_n 0, 1)) rfl (lv_at hl 0 rfl) ?_
    refine lv_iload_n hx hb (by decide +kernel : decode cL_cell 10 = .ok (.iload_n 1, 1)) rfl (lv_at hl 1 rfl) ?_
    refine lv_aload_n hx hb (by decide +kernel : decode cL_cell 11 = .ok (.aload_n 0, 1)) rfl (lv_at hl 0 rfl) ?_
    refine va_slen hx hb hX hbl hbA hS (by decide +kernel : decode cL_cell 12 = .ok (.arraylength, 1)) ?_
    refine lv_irem hx hb (by decide +kernel : decode cL_cell 13 = .ok (.irem, 1)) h2 ?_
    rw [show nI i - nI i / Int32.ofNat sn * Int32.ofNat sn = nI (i % sn) from nI_rem (by omega) hp hX0.2.2]
    refine va_sld hx hb hX hbl hbA hS (i := nI (i % sn)) (nI_in hlt hX0.2.2) (by decide +kernel : decode cL_cell 14 = .ok (.iaload, 1)) ?_
    rw [nI_clamp (show i % sn < 2 ^ 31 by omega)]
    refine lv_ldc hx hb hown (hT _ okT_k_PinBarrelLaw_7) (by decide +kernel : decode cL_cell 15 = .ok (.ldc 7, 2)) ?_
    refine lv_irem hx hb (by decide +kernel : decode cL_cell 17 = .ok (.irem, 1)) (by decide) ?_
    have b1 := Int.tmod_lt_of_pos (sf (i % sn)).toInt (show (0 : Int) < 100000 by decide)
    have b2 := Int.lt_tmod_of_pos (sf (i % sn)).toInt (show (0 : Int) < 100000 by decide)
    rw [c_rem]
    refine va_mabs hx hb (hml.trans hl.1.symm) hown (hT _ okT_l_PinBarrelLaw_8) (hT _ okJ_ab) (hT _ okJ_im) (hT _ okJ_ca) (by show 1 ≤ 1; decide) (by show 0 + 13 ≤ 30; decide) (Nat.le_refl _) (Nat.le_refl _) (by decide +kernel : decode cL_cell 18 = .ok (.invokestatic 8, 3)) ?_
    rw [abs_nI ⟨by omega, by omega⟩]
    exact W.iret hx hb B.returns (fun t ht _ => ⟨_, rfl, hS.F ht, rfl, by rw [ht]; exact hw⟩) hS.2.2 (by decide +kernel : decode cL_cell 21 = .ok (.ireturn, 1)) B.notSynchronized
theorem jt_name (hF : tFx D cB s0 a0) {k q : Nat} (hk : k < 4) (hq : vk_R "PinBarrelLaw" (lwI (3 + k)) (lwJ (3 + k)) q s0) : tMet l yL_name cL_name 1 (some (.object "java/lang/String")) 0 0 0 0 s0 [.int (nI k)] Wd (fun r H => r = some (.ref q) ∧ Wd H) := by
  refine Met.ofW (by decide) rfl fun p e s m args below meth c s₁ B hml hP => ?_
  obtain ⟨rfl, hW, hS0, hw⟩ := hP
  have hx := B.exec
  have hb := B.bytes
  have hT := pj_at hF.1 hW #[Value.int (nI k)]
  have hTS := TS_at hF.1 hW #[Value.int (nI k)]
  have hK := va_K.moved hW.alike hF.2.1
  have hZ := (va_Z.moved hW.alike hF.2.2).kept hS0.2.1
  have hown := findClass_of_methodNamed B.named
  have hS : va_S (tA s0) s.heap s.heap [] := va_S.rf
  have hA : ∀ q : Nat, s.heap.size ≤ q → tA s0 q := fun q h => Nat.le_trans hS0.1 h
  have hpre : ∀ {H1 : Heap} {locs1 : List Loc} {Wd : Heap → Prop}, va_S (tA s0) s.heap H1 locs1 → Wd H1 → ∀ (av : List Value) (U : State), U.heap = H1 → s.WarmedH U.vm → tP s0 av Wd av.toArray U := fun hS1 hw1 av U hU hWU => ⟨rfl, State.WarmedH.trans hW hWU, by rw [hU]; exact pas_nil (pas_trans hS0 hS1), by rw [hU]; exact hw1⟩
  have hl := lv_entry [.int (nI k)] (n := 1) (Nat.le_of_ble_eq_true rfl)
  rw [lg_entry_eq]
  generalize (lg_sl [.int (nI k)] ++ List.replicate (1 - (lg_sl [.int (nI k)]).length) Slot.unset).toArray = ls at hl ⊢
  have hl : lv_has ls 1 [(0, .int (nI k))] := hl
  have hq := vk_R.warm hW hq
  refine lv_iload_n hx hb (by decide +kernel : decode cL_name 0 = .ok (.iload_n 0, 1)) rfl (lv_at hl 0 rfl) ?_
  rcases (show k = 0 ∨ k = 1 ∨ k = 2 ∨ k = 3 by omega) with rfl | rfl | rfl | rfl
  · refine lv_tableIn hx hb (by decide +kernel : decode cL_name 1 = .ok (.tableswitch 36 0 2 #[27, 30, 33], 27)) (off := 27) (tgt := 28) (by decide +kernel) (by decide +kernel) (by decide +kernel) (by decide) ?_
    refine va_ldcS hx hb hown hq (by decide +kernel : decode cL_name 28 = .ok (.ldc 33, 2)) ?_
    exact W.aret hx hb B.returns (Or.inl ⟨_, rfl⟩) (Or.inr ⟨_, rfl⟩) (fun t ht _ => ⟨_, rfl, hS.F ht, rfl, by rw [ht]; exact hw⟩) hS.2.2 (by decide +kernel : decode cL_name 30 = .ok (.areturn, 1)) B.notSynchronized
  · refine lv_tableIn hx hb (by decide +kernel : decode cL_name 1 = .ok (.tableswitch 36 0 2 #[27, 30, 33], 27)) (off := 30) (tgt := 31) (by decide +kernel) (by decide +kernel) (by decide +kernel) (by decide) ?_
    refine va_ldcS hx hb hown hq (by decide +kernel : decode cL_name 31 = .ok (.ldc 35, 2)) ?_
    exact W.aret hx hb B.returns (Or.inl ⟨_, rfl⟩) (Or.inr ⟨_, rfl⟩) (fun t ht _ => ⟨_, rfl, hS.F ht, rfl, by rw [ht]; exact hw⟩) hS.2.2 (by decide +kernel : decode cL_name 33 = .ok (.areturn, 1)) B.notSynchronized
  · refine lv_tableIn hx hb (by decide +kernel : decode cL_name 1 = .ok (.tableswitch 36 0 2 #[27, 30, 33], 27)) (off := 33) (tgt := 34) (by decide +kernel) (by decide +kernel) (by decide +kernel) (by decide) ?_
    refine va_ldcS hx hb hown hq (by decide +kernel : decode cL_name 34 = .ok (.ldc 37, 2)) ?_
    exact W.aret hx hb B.returns (Or.inl ⟨_, rfl⟩) (Or.inr ⟨_, rfl⟩) (fun t ht _ => ⟨_, rfl, hS.F ht, rfl, by rw [ht]; exact hw⟩) hS.2.2 (by decide +kernel : decode cL_name 36 = .ok (.areturn, 1)) B.notSynchronized
  · refine lv_tableOut hx hb (by decide +kernel : decode cL_name 1 = .ok (.tableswitch 36 0 2 #[27, 30, 33], 27)) (tgt := 37) (Or.inr (by decide +kernel)) (by decide) ?_
    refine va_ldcS hx hb hown hq (by decide +kernel : decode cL_name 37 = .ok (.ldc 39, 2)) ?_
    exact W.aret hx hb B.returns (Or.inl ⟨_, rfl⟩) (Or.inr ⟨_, rfl⟩) (fun t ht _ => ⟨_, rfl, hS.F ht, rfl, by rw [ht]; exact hw⟩) hS.2.2 (by decide +kernel : decode cL_name 39 = .ok (.areturn, 1)) B.notSynchronized
end JT19
