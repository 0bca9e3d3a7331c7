/-! THE START: the strings, the classes, the statics -/
/-- what the claim gives of a string constant -/
def RQ (own : String) (k : Nat) (t : List Nat) : List Cond := [Cond.exactly (Term.string own k) "java/lang/String", Cond.eq (.field (Term.string own k) "java/lang/String" "coder" "B") (.int 0), Cond.arrayOf (.field (Term.string own k) "java/lang/String" "value" "[B") .byte, Cond.eq (.length (.field (Term.string own k) "java/lang/String" "value" "[B")) (.int (Int32.ofNat t.length))] ++ (List.range t.length).map (fun j => Cond.eq (.elem (.field (Term.string own k) "java/lang/String" "value" "[B") (.int (Int32.ofNat j))) (.int (Int32.ofNat (t.getD j 0))))
def FL : List Cond := flatC (Jvm.Cond.and given_1 narrow_1)
def RQo : List Nat := [414, 438, 469, 495, 217, 227, 236, 315, 323, 245, 250, 257, 262, 269, 274, 279, 286, 291, 298, 303, 310, 245, 245, 245, 245, 245, 245, 245, 245, 245, 245, 245, 245, 245, 245, 245, 245, 245]
def RQt : List Nat := [859, 897, 915, 955, 404, 441, 446, 475, 484, 458, 459, 460, 461, 462, 463, 464, 465, 466, 467, 468, 469, 458, 458, 458, 458, 458, 458, 458, 458, 458, 458, 458, 458, 458, 458, 458, 458, 458]
def RLo : List Nat := [330, 341, 352, 363, 371, 379, 387, 395, 405]
def RLt : List Nat := [540, 710, 712, 716, 717, 718, 719, 720, 721]
def sOwD (i : Nat) : String × Nat × String := sOw.getD i ("", 0, "")
set_option maxRecDepth 100000 in
theorem RQ_in : ∀ i, i < 38 → (FL.drop (RQo.getD i 0)).take (RQ (sOwD i).1 (sOwD i).2.1 (sTx.getD i [])).length = RQ (sOwD i).1 (sOwD i).2.1 (sTx.getD i []) := by decide +kernel
set_option maxRecDepth 100000 in
theorem RQ_tb : ∀ i, i < 38 → some (Cond.stringRef (sOwD i).1 (sOwD i).2.1 (sOwD i).2.2) = lw_tbl[RQt.getD i 0]? := by decide +kernel
set_option maxRecDepth 100000 in
theorem RL_in : ∀ i, i < 9 → (FL.drop (RLo.getD i 0)).take (RQ "PinBarrelLaw" (lwI i) (lwT i)).length = RQ "PinBarrelLaw" (lwI i) (lwT i) := by decide +kernel
set_option maxRecDepth 100000 in
theorem RL_tb : ∀ i, i < 9 → some (Cond.stringRef "PinBarrelLaw" (lwI i) (lwJ i)) = lw_tbl[RLt.getD i 0]? := by decide +kernel
set_option maxRecDepth 100000 in
theorem dg_one : ∀ j, j < 100 → FL[12 + j]? = some (.eq (.elem (.static "java/lang/Integer" "DigitOnes" "[B") (.int (Int32.ofNat j))) (.int (nI (48 + j % 10)))) := by decide +kernel
set_option maxRecDepth 100000 in
theorem dg_ten : ∀ j, j < 100 → FL[115 + j]? = some (.eq (.elem (.static "java/lang/Integer" "DigitTens" "[B") (.int (Int32.ofNat j))) (.int (nI (48 + j / 10)))) := by decide +kernel
set_option maxRecDepth 100000 in
theorem st_fl : FL[4]? = some (.eq (.static "java/lang/String" "COMPACT_STRINGS" "Z") (.int 1)) ∧ FL[5]? = some (.isRef (.static "jdk/internal/util/Preconditions" "SIOOBE_FORMATTER" "Ljava/util/function/BiFunction;")) ∧ FL[10]? = some (.arrayOf (.static "java/lang/Integer" "DigitOnes" "[B") .byte) ∧ FL[11]? = some (.eq (.length (.static "java/lang/Integer" "DigitOnes" "[B")) (.int (Int32.ofNat 100))) ∧ FL[113]? = some (.arrayOf (.static "java/lang/Integer" "DigitTens" "[B") .byte) ∧ FL[114]? = some (.eq (.length (.static "java/lang/Integer" "DigitTens" "[B")) (.int (Int32.ofNat 100))) := by decide +kernel
set_option maxRecDepth 100000 in
theorem st_tb : lw_tbl[336]? = some (.laysStatic "java/lang/String" "COMPACT_STRINGS" "Z") ∧ lw_tbl[40]? = some (.initialized "java/lang/String") ∧ lw_tbl[352]? = some (.laysStatic "jdk/internal/util/Preconditions" "SIOOBE_FORMATTER" "Ljava/util/function/BiFunction;") ∧ lw_tbl[44]? = some (.initialized "jdk/internal/util/Preconditions") ∧ lw_tbl[686]? = some (.laysStatic "java/lang/Integer" "DigitOnes" "[B") ∧ lw_tbl[688]? = some (.laysStatic "java/lang/Integer" "DigitTens" "[B") ∧ lw_tbl[47]? = some (.initialized "java/lang/Integer") := by decide +kernel
set_option maxRecDepth 100000 in
theorem okS_load : Cond.static (mY 216) ∈ TG := tg 325 rfl rfl
set_option maxRecDepth 100000 in
theorem okS_step : Cond.static (mY 218) ∈ TG := tg 780 rfl rfl
set_option maxRecDepth 100000 in
theorem okS_agr : Cond.static (mY 224) ∈ TG := tg 1208 rfl rfl
set_option maxRecDepth 100000 in
theorem okS_for : Cond.static (mY 226) ∈ TG := tg 1130 rfl rfl
set_option maxRecDepth 100000 in
theorem okS_ini : Cond.instanceMethod (mY 8) ∈ TG := tg 58 rfl rfl
theorem tg_in {w : Cond} (h : w ∈ TG) : w ∈ lw_tbl := (List.mem_filter.mp h).1
theorem flt {w : Cond} (i : Nat) (h : FL[i]? = some w) : w ∈ FL := List.mem_of_getElem? h
theorem tbt {w : Cond} (i : Nat) (h : lw_tbl[i]? = some w) : w ∈ lw_tbl := List.mem_of_getElem? h
section STK
variable {a0 : Array Value} {s : State} {A : Nat → Prop}
theorem bef_static {C n d : String} {z : Int32} (h : (Cond.eq (.static C n d) (.int z)).before a0 s = true) : (Term.static C n d).eval a0 s none [] s = some (.int z) := va_eqt h
theorem stq_at {own : String} {k : Nat} {t : List Nat} (hin : ∀ w ∈ RQ own k t, w.before a0 s = true) (hlen : t.length < 1000) (hA : ∀ a : Nat, a < s.heap.size → ¬ A a) : ∃ p : Nat × Nat, pSt t p.1 p.2 A s s.heap ∧ (Term.string own k).eval a0 s none [] s = some (.ref p.1) := by
  unfold RQ at hin
  have z0 : ∀ j : Nat, j < 1 → j = 0 := fun j hj => by omega
  obtain ⟨adK, adV, h1, h2⟩ := vk_Sof (args := a0) (s := s) (N := 1) (tm := fun _ => Term.string own k) (len := [t.length]) (byt := [t.map (fun c => Int32.ofNat c)]) (A := A)
    (fun j hj => by rw [z0 j hj]; show t.length < _; omega)
    (fun j hj => hin _ (List.mem_append_left _ (List.mem_cons_self)))
    (fun j hj => hin _ (List.mem_append_left _ (List.mem_cons_of_mem _ List.mem_cons_self)))
    (fun j hj => hin _ (List.mem_append_left _ (List.mem_cons_of_mem _ (List.mem_cons_of_mem _ List.mem_cons_self))))
    (fun j hj => by
      rw [z0 j hj]
      exact hin _ (List.mem_append_left _ (List.mem_cons_of_mem _ (List.mem_cons_of_mem _ (List.mem_cons_of_mem _ List.mem_cons_self)))))
    (fun j hj i hi => by
      rw [z0 j hj] at hi ⊢
      have hi : i < t.length := hi
      have e3 : (t.map (fun c => Int32.ofNat c)).getD i 0 = Int32.ofNat (t.getD i 0) := getD_map (fun c => Int32.ofNat c) t hi 0 0
      show (Cond.eq (.elem (.field (Term.string own k) "java/lang/String" "value" "[B") (.int (Int32.ofNat i))) (.int ((t.map (fun c => Int32.ofNat c)).getD i 0))).before a0 s = true
      rw [e3]
      exact hin _ (List.mem_append_right _ (List.mem_map.mpr ⟨i, List.mem_range.mpr hi, rfl⟩)))
    (fun j i hj hi hne => absurd ((z0 j hj).trans (z0 i hi).symm) hne) hA
  refine ⟨(adK 0, adV 0), ⟨fun j hj => ?_, fun j i hj hi _ => (z0 j hj).trans (z0 i hi).symm⟩, h2 0 Nat.zero_lt_one⟩
  have := h1.1 j hj
  rw [z0 j hj] at this ⊢
  exact this
theorem sTx_len : ∀ i, i < 38 → (sTx.getD i []).length < 1000 := by decide +kernel
theorem str_K (hts : ∀ w ∈ lw_tbl, w.before a0 s = true) (hF : ∀ w ∈ FL, w.before a0 s = true) (hA : ∀ a : Nat, a < s.heap.size → ¬ A a) : ∃ sa sv : Nat → Nat, (∀ i, i < 38 → pSt (sTx.getD i []) (sa i) (sv i) A s s.heap) ∧ ∀ (i : Nat) (q : String × Nat × String), sOw[i]? = some q → vk_R q.1 q.2.1 q.2.2 (sa i) s := by
  have h0 : ∀ i : Nat, ∃ p : Nat × Nat, i < 38 → pSt (sTx.getD i []) p.1 p.2 A s s.heap ∧ (Term.string (sOwD i).1 (sOwD i).2.1).eval a0 s none [] s = some (.ref p.1) := fun i => by
    by_cases hi : i < 38
    · obtain ⟨p, h⟩ := stq_at (own := (sOwD i).1) (k := (sOwD i).2.1) (t := sTx.getD i []) (fun w hw => by
        rw [← RQ_in i hi] at hw
        exact hF w (List.mem_of_mem_drop (List.mem_of_mem_take hw))) (sTx_len i hi) hA
      exact ⟨p, fun _ => h⟩
    · exact ⟨(0, 0), fun h => absurd h hi⟩
  obtain ⟨ad, had⟩ := Classical.axiomOfChoice h0
  refine ⟨fun i => (ad i).1, fun i => (ad i).2, fun i hi => (had i hi).1, fun i q hq => ?_⟩
  have hi : i < 38 := (List.getElem?_eq_some_iff.mp hq).1
  have e : sOwD i = q := by
    unfold sOwD
    rw [List.getD_eq_getElem?_getD, hq]
    rfl
  have ht := RQ_tb i hi
  have h2 := (had i hi).2
  rw [e] at ht h2
  exact vk_R.of (hts _ (List.mem_of_getElem? ht.symm)) h2
theorem lst_K (hts : ∀ w ∈ lw_tbl, w.before a0 s = true) (hF : ∀ w ∈ FL, w.before a0 s = true) (hA : ∀ a : Nat, a < s.heap.size → ¬ A a) : ∃ sL aL : Nat → Nat, ∀ i, i < 9 → vk_R "PinBarrelLaw" (lwI i) (lwJ i) (sL i) s ∧ pSt (lwT i) (sL i) (aL i) A s s.heap := by
  have h0 : ∀ i : Nat, ∃ p : Nat × Nat, i < 9 → pSt (lwT i) p.1 p.2 A s s.heap ∧ (Term.string "PinBarrelLaw" (lwI i)).eval a0 s none [] s = some (.ref p.1) := fun i => by
    by_cases hi : i < 9
    · obtain ⟨p, h⟩ := stq_at (own := "PinBarrelLaw") (k := lwI i) (t := lwT i) (fun w hw => by
        rw [← RL_in i hi] at hw
        exact hF w (List.mem_of_mem_drop (List.mem_of_mem_take hw))) (lwT_ok i hi).1.1 hA
      exact ⟨p, fun _ => h⟩
    · exact ⟨(0, 0), fun h => absurd h hi⟩
  obtain ⟨ad, had⟩ := Classical.axiomOfChoice h0
  exact ⟨fun i => (ad i).1, fun i => (ad i).2, fun i hi => ⟨vk_R.of (hts _ (List.mem_of_getElem? (RL_tb i hi).symm)) (had i hi).2, (had i hi).1⟩⟩
theorem dig_K (hts : ∀ w ∈ lw_tbl, w.before a0 s = true) (hF : ∀ w ∈ FL, w.before a0 s = true) (hA : ∀ a : Nat, a < s.heap.size → ¬ A a) : ∃ dO dT : Nat, va_Z "java/lang/Integer" "DigitOnes" "[B" (.ref dO) A s s.heap ∧ va_Z "java/lang/Integer" "DigitTens" "[B" (.ref dT) A s s.heap ∧ va_T .byte dO 100 (fun j => .int (nI (48 + j % 10))) A s s.heap ∧ va_T .byte dT 100 (fun j => .int (nI (48 + j / 10))) A s s.heap := by
  obtain ⟨f1, f2, f3, f4, f5, f6⟩ := st_fl
  obtain ⟨t1, t2, t3, t4, t5, t6, t7⟩ := st_tb
  obtain ⟨dO, e1, h1⟩ := va_Tof (args := a0) (s := s) (tm := .static "java/lang/Integer" "DigitOnes" "[B") (ty := .byte) (N := 100) (f := fun j => .int (nI (48 + j % 10))) (A := A) (by decide) (hF _ (flt 10 f3)) (va_eqt (hF _ (flt 11 f4))) (fun j hj => va_eqt (hF _ (flt (12 + j) (dg_one j hj)))) hA
  obtain ⟨dT, e2, h2⟩ := va_Tof (args := a0) (s := s) (tm := .static "java/lang/Integer" "DigitTens" "[B") (ty := .byte) (N := 100) (f := fun j => .int (nI (48 + j / 10))) (A := A) (by decide) (hF _ (flt 113 f5)) (va_eqt (hF _ (flt 114 f6))) (fun j hj => va_eqt (hF _ (flt (115 + j) (dg_ten j hj)))) hA
  exact ⟨dO, dT, va_Zref (hts _ (tbt 686 t5)) (hts _ (tbt 47 t7)) e1 hA, va_Zref (hts _ (tbt 688 t6)) (hts _ (tbt 47 t7)) e2 hA, h1, h2⟩
theorem sta_K (hts : ∀ w ∈ lw_tbl, w.before a0 s = true) (hF : ∀ w ∈ FL, w.before a0 s = true) (hA : ∀ a : Nat, a < s.heap.size → ¬ A a) : va_Z "java/lang/String" "COMPACT_STRINGS" "Z" (.int 1) A s s.heap ∧ va_Zq "jdk/internal/util/Preconditions" "SIOOBE_FORMATTER" "Ljava/util/function/BiFunction;" A s s.heap := by
  obtain ⟨f1, f2, f3, f4, f5, f6⟩ := st_fl
  obtain ⟨t1, t2, t3, t4, t5, t6, t7⟩ := st_tb
  exact ⟨va_Zof (hts _ (tbt 336 t1)) (hts _ (tbt 40 t2)) (bef_static (hF _ (flt 4 f1))) hA, va_Zqof (hts _ (tbt 352 t3)) (hts _ (tbt 44 t4)) (hF _ (flt 5 f2)) hA⟩
theorem cls_K (hts : ∀ w ∈ lw_tbl, w.before a0 s = true) : ∃ D : va_G, ∀ (c : Nat) (q : vw_C), vwCl[c]? = some q → u_Kn s q.1 q.2.1 q.2.2 (D.1 c) (D.2 c) := by
  have h0 : ∀ c : Nat, ∃ p : ClassId × (Nat → Nat), ∀ q : vw_C, vwCl[c]? = some q → u_Kn s q.1 q.2.1 q.2.2 p.1 p.2 := fun c => by
    by_cases hc : c < 8
    · obtain ⟨C, T, N, ty, e, lay, -, -, -, -, inst, -⟩ := okU_all c hc
      obtain ⟨cC, iS, h⟩ := u_known (fun w hw => hts w (tg_in hw)) (u_wsTG lay) (hts _ (tg_in inst))
      exact ⟨(cC, iS), fun q hq => by rw [e] at hq; cases hq; exact h⟩
    · exact ⟨(0, fun _ => 0), fun q hq => absurd (List.getElem?_eq_some_iff.mp hq).1 hc⟩
  obtain ⟨ad, had⟩ := Classical.axiomOfChoice h0
  exact ⟨(fun c => (ad c).1, fun c => (ad c).2), had⟩
theorem clt_K (hts : ∀ w ∈ lw_tbl, w.before a0 s = true) : ∃ D : va_G, ∀ (c : Nat) (q : vw_C), tCl[c]? = some q → u_Kn s q.1 q.2.1 q.2.2 (D.1 c) (D.2 c) := by
  obtain ⟨c0, i0, h0⟩ := u_known (fun w hw => hts w (tg_in hw)) jt_ws4 (hts _ (tg_in okT_n_StringBuilder))
  obtain ⟨c1, i1, h1⟩ := u_known (fun w hw => hts w (tg_in hw)) jt_ws0 (hts _ (tg_in okT_n_String))
  refine ⟨(fun c => [c0, c1].getD c 0, fun c => [i0, i1].getD c (fun _ => 0)), fun c q hq => ?_⟩
  match c, hq with
  | 0, hq => cases hq; exact h0
  | 1, hq => cases hq; exact h1
  | c + 2, hq => cases hq
theorem arr_1 {t : FieldType} (h : (Cond.arrayClass t).before a0 s = true) : ∃ cA, ArrOfT s cA t ∧ s.vm.findClass ("[" ++ t.toString) = some cA := by
  obtain ⟨c, k, comp, h1, h2, h3⟩ := Cond.arrayClass_spec h
  exact ⟨c, fun n z => ⟨fun k h => (by cases h), k, h2, comp, h3⟩, h1⟩
theorem arr_K (hts : ∀ w ∈ lw_tbl, w.before a0 s = true) : ∃ cy : Nat → ClassId, ∀ (k : Nat) (q : ClassId × FieldType), (ptys cy)[k]? = some q → ArrOfT s q.1 q.2 ∧ va_RA s q.1 q.2 := by
  obtain ⟨c0, h0, g0⟩ := arr_1 (hts _ (tg_in okA_int))
  obtain ⟨c1, h1, g1⟩ := arr_1 (hts _ (tg_in okA_long))
  obtain ⟨c2, h2, g2⟩ := arr_1 (hts _ (tg_in okA_char))
  obtain ⟨c3, h3, g3⟩ := arr_1 (hts _ (tg_in okA_boolean))
  obtain ⟨c4, h4, g4⟩ := arr_1 (hts _ (tg_in okA_byte))
  obtain ⟨comp, c6, k6, e1, -, e3, e4, e5⟩ := Cond.arrayOver_spec (hts _ okA_over)
  refine ⟨fun k => [c0, c1, c2, c3, c4, c4, c6].getD k 0, fun k q hq => ?_⟩
  match k, hq with
  | 0, hq => cases hq; exact ⟨h0, g0⟩
  | 1, hq => cases hq; exact ⟨h1, g1⟩
  | 2, hq => cases hq; exact ⟨h2, g2⟩
  | 3, hq => cases hq; exact ⟨h3, g3⟩
  | 4, hq => cases hq; exact ⟨h4, g4⟩
  | 5, hq => cases hq; exact ⟨h4, g4⟩
  | 6, hq => cases hq; exact ⟨fun n z => ⟨fun k h => (by cases h), k6, e3, comp, e4⟩, k6, comp, e3, e4, e1, e5⟩
  | k + 7, hq => cases hq
end STK
