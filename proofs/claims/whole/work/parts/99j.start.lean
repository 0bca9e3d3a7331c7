/-! THE START: the string constants, the classes, the statics -/
/-- what the claim gives of a string constant -/
def RQ (i : Nat) : List Cond := match sOw[i]? with
  | none => []
  | some q => [Cond.exactly (Term.string q.1 q.2.1) "java/lang/String", Cond.eq (.field (Term.string q.1 q.2.1) "java/lang/String" "coder" "B") (.int 0), Cond.arrayOf (.field (Term.string q.1 q.2.1) "java/lang/String" "value" "[B") .byte, Cond.eq (.length (.field (Term.string q.1 q.2.1) "java/lang/String" "value" "[B")) (.int (Int32.ofNat (sTx.getD i []).length))] ++ (List.range (sTx.getD i []).length).map (fun j => Cond.eq (.elem (.field (Term.string q.1 q.2.1) "java/lang/String" "value" "[B") (.int (Int32.ofNat j))) (.int (Int32.ofNat ((sTx.getD i []).getD j 0))))
def FL : List Cond := flatC (Jvm.Cond.and given_1 narrow_1)
def RQo : List Nat := [144, 219, 168, 194, 31, 41, 50, 129, 137, 59, 64, 71, 76, 83, 88, 93, 100, 105, 112, 117, 124, 281, 287, 295, 301, 309, 315, 321, 329, 335, 343, 349, 357, 250, 261, 271, 363, 372]
def RQt : List Nat := [745, 840, 792, 816, 422, 505, 510, 539, 548, 522, 523, 524, 525, 526, 527, 528, 529, 530, 531, 532, 533, 1544, 1545, 1546, 1547, 1548, 1549, 1550, 1551, 1552, 1553, 1554, 1555, 1491, 1527, 1532, 1563, 1575]
set_option maxRecDepth 100000 in
theorem RQ_in : ∀ i, i < 38 → (FL.drop (RQo.getD i 0)).take (RQ i).length = RQ i := by decide +kernel
set_option maxRecDepth 100000 in
theorem RQ_tb : ∀ i, i < 38 → (sOw[i]?).map (fun q => Cond.stringRef q.1 q.2.1 q.2.2) = lw_tbl[RQt.getD i 0]? := by decide +kernel
section STK
variable {a0 : Array Value} {s : State} {A : Nat → Prop}
theorem tg_in {w : Cond} (h : w ∈ TG) : w ∈ lw_tbl := (List.mem_filter.mp h).1
theorem str_at (hF : ∀ w ∈ FL, w.before a0 s = true) (hA : ∀ a : Nat, a < s.heap.size → ¬ A a) {i : Nat} (hi : i < 38) {q : String × Nat × String} (hq : sOw[i]? = some q) : ∃ p : Nat × Nat, vk_S 1 [(sTx.map List.length).getD i 0] [(sTx.map (fun t => t.map (fun c => Int32.ofNat c))).getD i []] (fun _ => p.1) (fun _ => p.2) A s s.heap ∧ (Term.string q.1 q.2.1).eval a0 s none [] s = some (.ref p.1) := by
  have hl : i < sTx.length := hi
  have e1 : (sTx.map List.length).getD i 0 = (sTx.getD i []).length := getD_map List.length sTx hl [] 0
  have e2 : (sTx.map (fun t => t.map (fun c => Int32.ofNat c))).getD i [] = (sTx.getD i []).map (fun c => Int32.ofNat c) := getD_map (fun t : List Nat => t.map (fun c => Int32.ofNat c)) sTx hl [] []
  have hlen := (sOw_ch i hi).1
  have hin : ∀ w ∈ RQ i, w.before a0 s = true := fun w hw => by
    rw [← RQ_in i hi] at hw
    exact hF w (List.mem_of_mem_drop (List.mem_of_mem_take hw))
  have hr : RQ i = [Cond.exactly (Term.string q.1 q.2.1) "java/lang/String", Cond.eq (.field (Term.string q.1 q.2.1) "java/lang/String" "coder" "B") (.int 0), Cond.arrayOf (.field (Term.string q.1 q.2.1) "java/lang/String" "value" "[B") .byte, Cond.eq (.length (.field (Term.string q.1 q.2.1) "java/lang/String" "value" "[B")) (.int (Int32.ofNat (sTx.getD i []).length))] ++ (List.range (sTx.getD i []).length).map (fun j => Cond.eq (.elem (.field (Term.string q.1 q.2.1) "java/lang/String" "value" "[B") (.int (Int32.ofNat j))) (.int (Int32.ofNat ((sTx.getD i []).getD j 0)))) := by
    unfold RQ
    rw [hq]
  rw [hr] at hin
  rw [e1, e2]
  have z0 : ∀ j : Nat, j < 1 → j = 0 := fun j hj => by omega
  obtain ⟨adK, adV, h1, h2⟩ := vk_Sof (args := a0) (s := s) (N := 1) (tm := fun _ => Term.string q.1 q.2.1) (len := [(sTx.getD i []).length]) (byt := [(sTx.getD i []).map (fun c => Int32.ofNat c)]) (A := A)
    (fun j hj => by rw [z0 j hj]; show (sTx.getD i []).length < _; omega)
    (fun j hj => hin _ (List.mem_append_left _ (List.mem_cons_self)))
    (fun j hj => hin _ (List.mem_append_left _ (List.mem_cons_of_mem _ List.mem_cons_self)))
    (fun j hj => hin _ (List.mem_append_left _ (List.mem_cons_of_mem _ (List.mem_cons_of_mem _ List.mem_cons_self))))
    (fun j hj => by
      rw [z0 j hj]
      exact hin _ (List.mem_append_left _ (List.mem_cons_of_mem _ (List.mem_cons_of_mem _ (List.mem_cons_of_mem _ List.mem_cons_self)))))
    (fun j hj k hk => by
      rw [z0 j hj] at hk ⊢
      have hk : k < (sTx.getD i []).length := hk
      have e3 : ((sTx.getD i []).map (fun c => Int32.ofNat c)).getD k 0 = Int32.ofNat ((sTx.getD i []).getD k 0) := getD_map (fun c => Int32.ofNat c) (sTx.getD i []) hk 0 0
      show (Cond.eq (.elem (.field (Term.string q.1 q.2.1) "java/lang/String" "value" "[B") (.int (Int32.ofNat k))) (.int (((sTx.getD i []).map (fun c => Int32.ofNat c)).getD k 0))).before a0 s = true
      rw [e3]
      exact hin _ (List.mem_append_right _ (List.mem_map.mpr ⟨k, List.mem_range.mpr hk, rfl⟩)))
    (fun j k hj hk hne => absurd ((z0 j hj).trans (z0 k hk).symm) hne) hA
  refine ⟨(adK 0, adV 0), ⟨fun j hj => ?_, fun j k hj hk _ => (z0 j hj).trans (z0 k hk).symm⟩, h2 0 Nat.zero_lt_one⟩
  have := h1.1 j hj
  rw [z0 j hj] at this ⊢
  exact this
theorem str_K (hts : ∀ w ∈ lw_tbl, w.before a0 s = true) (hF : ∀ w ∈ FL, w.before a0 s = true) (hA : ∀ a : Nat, a < s.heap.size → ¬ A a) : ∃ sa sv : Nat → Nat, (∀ i, i < sTx.length → vk_S 1 [(sTx.map List.length).getD i 0] [(sTx.map (fun t => t.map (fun c => Int32.ofNat c))).getD i []] (fun _ => sa i) (fun _ => sv i) A s s.heap) ∧ ∀ (i : Nat) (q : String × Nat × String), sOw[i]? = some q → vk_R q.1 q.2.1 q.2.2 (sa i) s := by
  have h0 : ∀ i : Nat, ∃ p : Nat × Nat, ∀ q : String × Nat × String, sOw[i]? = some q → vk_S 1 [(sTx.map List.length).getD i 0] [(sTx.map (fun t => t.map (fun c => Int32.ofNat c))).getD i []] (fun _ => p.1) (fun _ => p.2) A s s.heap ∧ (Term.string q.1 q.2.1).eval a0 s none [] s = some (.ref p.1) := fun i => by
    cases hq : sOw[i]? with
    | none => exact ⟨(0, 0), fun q h => by cases h⟩
    | some q =>
      have hi : i < 38 := (List.getElem?_eq_some_iff.mp hq).1
      obtain ⟨p, h⟩ := str_at hF hA hi hq
      exact ⟨p, fun q2 e => by cases e; exact h⟩
  obtain ⟨ad, had⟩ := Classical.axiomOfChoice h0
  refine ⟨fun i => (ad i).1, fun i => (ad i).2, fun i hi => ?_, fun i q hq => ?_⟩
  · have hq : sOw[i]? = some sOw[i] := List.getElem?_eq_getElem (show i < sOw.length from hi)
    exact (had i _ hq).1
  · have hi : i < 38 := (List.getElem?_eq_some_iff.mp hq).1
    have ht := RQ_tb i hi
    rw [hq] at ht
    exact vk_R.of (hts _ (List.mem_of_getElem? ht.symm)) (had i q hq).2
theorem cls_K (hts : ∀ w ∈ lw_tbl, w.before a0 s = true) : ∃ D : va_G, ∀ (c : Nat) (q : vw_C), vwCl[c]? = some q → u_Kn s q.1 q.2.1 q.2.2 (D.1 c) (D.2 c) := by
  have h0 : ∀ c : Nat, ∃ p : ClassId × (Nat → Nat), ∀ q : vw_C, vwCl[c]? = some q → u_Kn s q.1 q.2.1 q.2.2 p.1 p.2 := fun c => by
    by_cases hc : c < 9
    · obtain ⟨C, T, N, ty, e, lay, -, -, -, -, inst, -⟩ := okU_all c hc
      obtain ⟨cC, iS, h⟩ := u_known (fun w hw => hts w (tg_in hw)) (u_wsTG lay) (hts _ (tg_in inst))
      exact ⟨(cC, iS), fun q hq => by rw [e] at hq; cases hq; exact h⟩
    · exact ⟨(0, fun _ => 0), fun q hq => absurd (List.getElem?_eq_some_iff.mp hq).1 hc⟩
  obtain ⟨ad, had⟩ := Classical.axiomOfChoice h0
  exact ⟨(fun c => (ad c).1, fun c => (ad c).2), had⟩
theorem arr_1 {t : FieldType} (h : (Cond.arrayClass t).before a0 s = true) : ∃ cA, ArrOfT s cA t ∧ s.vm.findClass ("[" ++ t.toString) = some cA := by
  obtain ⟨c, k, comp, h1, h2, h3⟩ := Cond.arrayClass_spec h
  exact ⟨c, fun n z => ⟨fun k h => (by cases h), k, h2, comp, h3⟩, h1⟩
theorem arr_K (hts : ∀ w ∈ lw_tbl, w.before a0 s = true) : ∃ cy : Nat → ClassId, ∀ (k : Nat) (q : ClassId × FieldType), (ptys cy)[k]? = some q → ArrOfT s q.1 q.2 ∧ va_RA s q.1 q.2 := by
  obtain ⟨c0, h0, g0⟩ := arr_1 (hts _ (tg_in okA_int))
  obtain ⟨c1, h1, g1⟩ := arr_1 (hts _ (tg_in okA_long))
  obtain ⟨c2, h2, g2⟩ := arr_1 (hts _ (tg_in okA_char))
  obtain ⟨c3, h3, g3⟩ := arr_1 (hts _ (tg_in okA_boolean))
  obtain ⟨c4, h4, g4⟩ := arr_1 (hts _ (tg_in okA_byte))
  obtain ⟨c5, h5, g5⟩ := arr_1 (hts _ (tg_in okA_double))
  obtain ⟨comp, c6, k6, e1, -, e3, e4, e5⟩ := Cond.arrayOver_spec (hts _ okA_over)
  refine ⟨fun k => [c0, c1, c2, c3, c4, c5, c6].getD k 0, fun k q hq => ?_⟩
  match k, hq with
  | 0, hq => cases hq; exact ⟨h0, g0⟩
  | 1, hq => cases hq; exact ⟨h1, g1⟩
  | 2, hq => cases hq; exact ⟨h2, g2⟩
  | 3, hq => cases hq; exact ⟨h3, g3⟩
  | 4, hq => cases hq; exact ⟨h4, g4⟩
  | 5, hq => cases hq; exact ⟨h5, g5⟩
  | 6, hq => cases hq; exact ⟨fun n z => ⟨fun k h => (by cases h), k6, e3, comp, e4⟩, k6, comp, e3, e4, e1, e5⟩
  | k + 7, hq => cases hq
theorem bef_static {C n d : String} {z : Int32} (h : (Cond.eq (.static C n d) (.int z)).before a0 s = true) : (Term.static C n d).eval a0 s none [] s = some (.int z) := va_eqt h
theorem flt {w : Cond} (i : Nat) (h : FL[i]? = some w) : w ∈ FL := List.mem_of_getElem? h
theorem tbt {w : Cond} (i : Nat) (h : lw_tbl[i]? = some w) : w ∈ lw_tbl := List.mem_of_getElem? h
set_option maxRecDepth 100000 in
theorem st_fl : FL[9]? = some (.isRef (.static Bundle.tN "UNASSIGNED_STACK" Bundle.steD)) ∧ FL[10]? = some (.isRef (.static Bundle.tN "SUPPRESSED_SENTINEL" Bundle.listD)) ∧ FL[4]? = some (.eq (.static "java/lang/String" "COMPACT_STRINGS" "Z") (.int 1)) ∧ FL[5]? = some (.isRef (.static "jdk/internal/util/Preconditions" "SIOOBE_FORMATTER" "Ljava/util/function/BiFunction;")) ∧ FL[30]? = some (.not (.castable (eN 1) (eN 2))) ∧ FL[20]? = some (.not (.castable (eN 2) (eN 1))) := by decide +kernel
set_option maxRecDepth 100000 in
theorem st_tb : lw_tbl[732]? = some (.laysStatic Bundle.tN "UNASSIGNED_STACK" Bundle.steD) ∧ lw_tbl[734]? = some (.laysStatic Bundle.tN "SUPPRESSED_SENTINEL" Bundle.listD) ∧ lw_tbl[116]? = some (.initialized Bundle.tN) ∧ lw_tbl[436]? = some (.laysStatic "java/lang/String" "COMPACT_STRINGS" "Z") ∧ lw_tbl[108]? = some (.initialized "java/lang/String") ∧ lw_tbl[452]? = some (.laysStatic "jdk/internal/util/Preconditions" "SIOOBE_FORMATTER" "Ljava/util/function/BiFunction;") ∧ lw_tbl[110]? = some (.initialized "jdk/internal/util/Preconditions") := by decide +kernel
theorem pA_no (s : State) : ∀ a : Nat, a < s.heap.size → ¬ pA s.heap.size a := fun a h q => Nat.not_lt.mpr q h
/-- no old cell is written -/
theorem same_forget {u t : State} {L : List Loc} {k n : Nat} (h : u.sameButNew t L k n) (hL : ∀ q ∈ L, u.heap.size ≤ q.base) : u.sameButNew t [] k n := by
  obtain ⟨h1, h2, h3, h4, h5, h6⟩ := h
  refine ⟨h1, h2, h3, h4, h5, fun a c hc => ?_⟩
  obtain ⟨c', g1, g2, g3, g4⟩ := h6 a c hc
  have ha : a < u.heap.size := (Array.getElem?_eq_some_iff.mp hc).1
  exact ⟨c', g1, g2, g3, fun i _ => g4 i (fun hm => Nat.not_lt.mpr (hL _ hm) ha)⟩
end STK
