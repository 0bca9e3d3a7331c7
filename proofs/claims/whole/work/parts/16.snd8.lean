/-! SOUNDNESS, 8: handlers, throws -/
theorem pls_st1o {ad : Nat → Nat} {nL : Nat} {ls : Array Slot} {L : PL} {i : Nat} {v x : Value} (hL : L.length = nL) (hi : i < nL)
    (h : lv_has ls nL ((i, x) :: (pasc ad L).filter (fun q => !(q.1 == i) && !(q.1 + 1 == i && q.2.category == 2)))) : pLs ad nL ls ((pst1 L i v).set i none) := by
  refine ⟨h.1, ?_, h.2.1, fun j u hj => ?_⟩
  · unfold pst1
    split <;> simp [hL]
  · by_cases hji : j = i
    · subst hji
      exfalso
      rw [List.getElem?_set_self (by unfold pst1; split <;> simp [hL, hi])] at hj
      simp at hj
    · rw [List.getElem?_set_ne (Ne.symm hji)] at hj
      have e : L[j]? = some (some u) ∧ ¬ (j + 1 = i ∧ u.category = 2) := by
        unfold pst1 at hj
        rw [List.getElem?_set_ne (Ne.symm hji)] at hj
        by_cases hc : pc2 (L.getD (i - 1) none) = true
        · rw [if_pos hc] at hj
          by_cases hj2 : j = i - 1
          · subst hj2
            exfalso
            rw [List.getElem?_set_self (by rw [hL]; omega)] at hj
            cases hj
          · rw [List.getElem?_set_ne (Ne.symm hj2)] at hj
            exact ⟨hj, fun q => hj2 (by omega)⟩
        · rw [if_neg hc] at hj
          refine ⟨hj, fun q => hc ?_⟩
          have e1 : i - 1 = j := by omega
          rw [e1, List.getD_eq_getElem?_getD, hj]
          show pc2 (some u) = true
          have h2 := q.2
          cases u <;> first | rfl | (exact absurd h2 (by simp [Value.category]))
      refine h.2.2 (j, mV ad u) (List.mem_cons_of_mem _ (List.mem_filter.mpr ⟨pasc_mem.mpr ⟨u, e.1, rfl⟩, ?_⟩))
      have h2 := e.2
      simp only [mV_cat, Bool.and_eq_true, Bool.not_eq_true', beq_eq_false_iff_ne, ne_eq, Bool.and_eq_false_iff]
      refine ⟨hji, ?_⟩
      by_cases q : j + 1 = i
      · exact Or.inr (fun z => h2 ⟨q, z⟩)
      · exact Or.inl q
/-- the rows of the handlers -/
def okHb (M : Nat) (h : Nat × Nat × Nat × Nat × Nat × Nat × Nat) : Bool := Nat.blt 0 h.2.2.2.1 && (kE (mC M)).contains (h.2.2.2.1, h.2.2.2.2.1) && (match decode (mB M) h.2.2.1 with
  | .ok (.astore k, ln) => Nat.beq k h.2.2.2.2.2.1 && Nat.beq ln 2 && Nat.beq ln h.2.2.2.2.2.2
  | .ok (.astore_n k, ln) => Nat.beq (k : Nat) h.2.2.2.2.2.1 && Nat.beq ln 1 && Nat.beq ln h.2.2.2.2.2.2
  | _ => false)
set_option maxRecDepth 100000 in
theorem okH_all : ∀ M, M < 356 → (mH M).all (okHb M) = true := by decide +kernel
set_option maxRecDepth 100000 in
theorem phi0_all : ∀ M, M < 356 → phi M 0 ≤ mX M := by decide +kernel
theorem phi_le {M : Nat} (h : M < 356) (pc : Nat) : phi M pc ≤ mX M := Nat.le_trans (phs_mono _ (Nat.zero_le _)) (phi0_all M h)
/-- the places of 'throw new' -/
def okSb (M pc : Nat) : Bool := match decode (mB M) pc with
  | .ok (.new ik, 3) => (M == 65 && pc == 202 && ik == 140) || (M == 67 && pc == 15 && ik == 379) || (M == 69 && pc == 149 && ik == 140) || (M == 71 && pc == 18 && ik == 379) || (M == 74 && pc == 84 && ik == 140) || (M == 76 && pc == 10 && ik == 140)
  | _ => true
set_option maxRecDepth 100000 in
theorem okS_all : ∀ M, M < 356 → (mS M).all (fun e => okSb M e.1) = true := by decide +kernel
abbrev pNm : List String := ["java/lang/RuntimeException", "java/lang/Exception"]
set_option maxRecDepth 100000 in
theorem okX_1 : ∀ w ∈ (vx_atS (cN 8) 144 (eN 1) pNm).filter goodWord, w ∈ lw_tbl := by decide +kernel
set_option maxRecDepth 100000 in
theorem okX_2 : ∀ w ∈ (vx_atS (cN 8) 383 (eN 2) pNm).filter goodWord, w ∈ lw_tbl := by decide +kernel
def pBd (X : String) : List Cond := [.castable X X, .declares (Bundle.initS "java/lang/RuntimeException"), .declares (Bundle.initS "java/lang/Exception"), .declares (Bundle.initS Bundle.tN)]
set_option maxRecDepth 100000 in
theorem okX_3 : ∀ w ∈ (vx_atS (cN 8) 144 (eN 1) pNm).filter (fun w => !goodWord w), w ∈ pBd (eN 1) := by decide +kernel
set_option maxRecDepth 100000 in
theorem okX_4 : ∀ w ∈ (vx_atS (cN 8) 383 (eN 2) pNm).filter (fun w => !goodWord w), w ∈ pBd (eN 2) := by decide +kernel
set_option maxRecDepth 100000 in
theorem okX_5 : ∀ w ∈ Cond.classLink (cN 8) 140 (eN 1) :: Cond.initialized (eN 1) :: vx_atS (cN 8) 144 (eN 1) pNm, vx_ot w = true := by decide +kernel
set_option maxRecDepth 100000 in
theorem okX_6 : ∀ w ∈ Cond.classLink (cN 8) 379 (eN 2) :: Cond.initialized (eN 2) :: vx_atS (cN 8) 383 (eN 2) pNm, vx_ot w = true := by decide +kernel
set_option maxRecDepth 100000 in
theorem okX_9 : Cond.declares (Bundle.initS "java/lang/RuntimeException") ∈ lw_tbl ∧ Cond.declares (Bundle.initS "java/lang/Exception") ∈ lw_tbl ∧ Cond.declares (Bundle.initS Bundle.tN) ∈ lw_tbl := by decide +kernel
set_option maxRecDepth 100000 in
theorem okX_7 : Cond.castable (eN 1) (eN 1) ∈ lw_tbl ∧ Cond.castable (eN 2) (eN 2) ∈ lw_tbl ∧ Cond.initialized (eN 1) ∈ lw_tbl ∧ Cond.initialized (eN 2) ∈ lw_tbl := by decide +kernel
theorem okX_8 : Bundle.fit (eN 1) = true ∧ Bundle.fit (eN 2) = true ∧ ∀ n ∈ pNm, Bundle.fit n = true := by decide +kernel
section PTH
variable {p : Program} {l : Launch} {e : Env} {R : Room} {s : State} {m : MethodId} {args : Array Value} {below : List Frame} {meth : Method} {c : Code} {H : Heap} {locs : List Loc} {cells slots : Nat} {Q : State → Prop}
variable {pc ln : Nat} {i : Instr} {ls : Array Slot} {S S' : List Value} {w w' : PW}
variable {D : va_G} {cy : Nat → ClassId} {sa sv : Nat → Nat} {b Ls : Nat} {xs : Nat → Int32} {s0 : State} {a0 : Array Value} {M : Nat}
/-- what a method's run says of its end -/
def pQc (D : va_G) (cy : Nat → ClassId) (sa : Nat → Nat) (b Ls : Nat) (xs : Nat → Int32) (s0 : State) (o : PO) (w' : PW) : Array Value → State → Outcome → State → Prop := fun _ st oc t =>
  ∃ v, o = .inl v ∧ oc = .returned (v.map (mV (pad s0.heap.size sa b))) ∧ va_F (pA s0.heap.size) st t ∧ pRi D (pad s0.heap.size sa b) cy Ls xs w' t.heap
def pXc (D : va_G) (cy : Nat → ClassId) (sa : Nat → Nat) (b Ls : Nat) (xs : Nat → Int32) (s0 : State) (o : PO) (w' : PW) : String → State → State → Prop := fun En st t =>
  ∃ E, o = .inr E ∧ En = eN E ∧ va_F (pA s0.heap.size) st t ∧ pRi D (pad s0.heap.size sa b) cy Ls xs w' t.heap
theorem pri_kept {ad : Nat → Nat} {H1 : Heap} (h : pRi D ad cy Ls xs w H) (hk : ∀ q : Nat, q < H.size → H1[q]? = H[q]?) : pRi D ad cy Ls xs w H1 :=
  ⟨h.1.kept (fun k q hq => hk _ ((h.1 k q hq).lt)), h.2⟩
theorem pcx_cast (hC : pCx p l D cy sa sv b Ls xs s0 a0 M R s m c) {E : String} (h : Cond.castable E E ∈ lw_tbl) (a : Array Value) : (Cond.castable E E).before a s = true :=
  va_Nw.use rfl (va_Nw.warmC hC.2.2.2.2.2.2.1 (va_Nw.of (A := a0) rfl (hC.2.2.2.2.2.1.1.1 _ h)))
theorem pcx_bd (hC : pCx p l D cy sa sv b Ls xs s0 a0 M R s m c) {E : String} (h : Cond.castable E E ∈ lw_tbl) (a : Array Value) : ∀ w ∈ pBd E, w.before a s = true := by
  have hd : ∀ x : MethodName, Cond.declares x ∈ lw_tbl → (Cond.declares x).before a s = true := fun x hx => va_Nw.use rfl (va_Nw.warmD hC.2.2.2.2.2.2.1 (va_Nw.of (A := a0) rfl (hC.2.2.2.2.2.1.1.1 _ hx)))
  intro w hw
  simp only [pBd, List.mem_cons, List.not_mem_nil, or_false] at hw
  rcases hw with rfl | rfl | rfl | rfl
  · exact pcx_cast hC h a
  · exact hd _ okX_9.1
  · exact hd _ okX_9.2.1
  · exact hd _ okX_9.2.2
theorem pcx_Nc (hC : pCx p l D cy sa sv b Ls xs s0 a0 M R s m c) {E E' : Nat} (h : (E = 1 ∧ E' = 2) ∨ (E = 2 ∧ E' = 1)) : va_Nc (eN E) (eN E') s := by
  rcases h with ⟨rfl, rfl⟩ | ⟨rfl, rfl⟩
  · exact va_Nc.moved hC.2.2.2.2.2.2.1.alike hC.2.2.2.2.2.1.2.2.2.2.2.2.1
  · exact va_Nc.moved hC.2.2.2.2.2.2.1.alike hC.2.2.2.2.2.1.2.2.2.2.2.2.2
theorem tg_lw {w : Cond} (h : w ∈ lw_tbl) (hg : goodWord w = true) : w ∈ TG := List.mem_filter.mpr ⟨h, hg⟩
set_option maxHeartbeats 4000000 in
theorem pth_snd {mc ms : Nat} (hC : pCx p l D cy sa sv b Ls xs s0 a0 M R s m c) (hTab : c.exceptionTable.toList = tableOf ((mH M).map (fun h => (h.1, h.2.1, h.2.2.1, h.2.2.2.1)))) (hlk : meth.locks = false)
    (hR : pRi D (pad s0.heap.size sa b) cy Ls xs w H) (hS : va_S (pA s0.heap.size) s.heap H locs) (hls : ls.size = mN M) (hcs : cells + 1 ≤ R.cells) (hss : slots + 6 ≤ R.slots) (hc : cells + 1 ≤ mc) (hs : slots + 6 ≤ ms)
    (hd : decode (mB M) pc = .ok (i, 3)) {E : Nat} (hf : pth M pc i S w = some E) :
    W p l e R s m args below meth c H locs cells slots (vx_MQ below (pQc D cy sa b Ls xs s0 (.inr E) w) (pXc D cy sa b Ls xs s0 (.inr E) w) args s mc ms (pA s0.heap.size)) (F0 m pc ls (S.map (mV (pad s0.heap.size sa b)))) := by
  have hx := hC.1
  have hb := hC.2.1
  have hml := hC.2.2.1
  have hown := hC.2.2.2.1
  have hMl := hC.2.2.2.2.1
  have hF := hC.2.2.2.2.2.1
  have hWr := hC.2.2.2.2.2.2.1
  have hfr := hC.2.2.2.2.2.2.2.2.1
  have hlo := hC.2.2.2.2.2.2.2.2.2
  have hT : ∀ w ∈ TG, w.before args s = true := fun w h => pw_tg hC h args
  have hU := (vx_Zq.moved hWr.alike hF.2.2.1).kept (pcx_S hC).2.1
  have hN := (vx_Zq.moved hWr.alike hF.2.2.2.1).kept (pcx_S hC).2.1
  have hl := hF.1.2.2.2.2.1
  unfold pth at hf
  split at hf
  · rename_i ik
    split at hf
    · rename_i E9 hke
      split at hf
      · rename_i hcond
        obtain ⟨q1, q2, q3, q4, q5, q6, q7⟩ := hcond
        cases hf
        have hout : ∀ (pc9 : Nat) x, x ∈ c.exceptionTable.toList → covers x pc9 = false := by
          intro pc9 x hx9
          rw [hTab, q3] at hx9
          cases hx9
        have h8 := pcat8 (pad s0.heap.size sa b) q6
        have hxc : ∀ En : String, En = eN E → ∀ t : State, s.vm.Alike t.vm → H.size ≤ t.heap.size → (∀ q : Nat, q < H.size → t.heap[q]? = H[q]?) → pXc D cy sa b Ls xs s0 (.inr E) w En s t := by
          intro En hEn t _ h1 h2
          exact ⟨E, rfl, hEn, ⟨Nat.le_trans hS.1 h1, fun q g1 g2 => (h2 q (Nat.lt_of_lt_of_le g1 hS.1)).trans (hS.2.1 q g1 g2)⟩, pri_kept hR h2⟩
        have hat1 : ∀ w ∈ vx_atS (cN 8) 144 (eN 1) pNm, w.before args s = true := vx_hat (fun w hw => hT w (tg_lw (okX_1 w hw) (List.mem_filter.mp hw).2)) okX_3 (pcx_bd hC okX_7.1 args)
        have hat2 : ∀ w ∈ vx_atS (cN 8) 383 (eN 2) pNm, w.before args s = true := vx_hat (fun w hw => hT w (tg_lw (okX_2 w hw) (List.mem_filter.mp hw).2)) okX_4 (pcx_bd hC okX_7.2.1 args)
        have hstr : ∀ (i9 : Nat) (is : Nat) (tx : String), sOw[i9]? = some (cN 8, is, tx) → vk_R (cN 8) is tx (sa i9) s := fun i9 is tx h => vk_R.warm hWr (hF.1.2.2.2.2.2 i9 _ h)
        obtain ⟨e9, he9, hpc9⟩ := List.any_eq_true.mp q7
        have hpc := Nat.eq_of_beq_eq_true hpc9
        have hsb := List.all_eq_true.mp (okS_all M hMl) e9 he9
        unfold okSb at hsb
        rw [hpc, hd] at hsb
        simp only [Bool.or_eq_true, Bool.and_eq_true, beq_iff_eq] at hsb
        rcases hsb with ((((h | h) | h) | h) | h) | h
        · obtain ⟨⟨rfl, rfl⟩, rfl⟩ := h
          cases hke
          exact vx_throwS (own := cN 8) (cls := eN 1) (names := pNm) hx hb hl hown okX_8.1 okX_8.2.2 (hT _ (okE_all 8 (by decide) _ (plk_mem (rfl : plk 140 (kE 8) = some 1))).2) (hT _ (tg_lw okX_7.2.2.1 rfl)) (hstr 0 142 _ rfl) hat1 okX_5 hU hN hS (hls.trans hml.symm) hd (by decide +kernel : decode (mB 65) 205 = .ok (.dup, 1)) (by decide +kernel : decode (mB 65) 206 = .ok (.ldc 142, 2)) (by decide +kernel : decode (mB 65) 208 = .ok (.invokespecial 144, 3)) (by decide +kernel : decode (mB 65) 211 = .ok (.athrow, 1)) (hout _) (by show 2 + 3 < R.frames; omega) (by show _ + (13 * (2 + 1) + 43) ≤ R.locals; omega) hcs hss hlk (hxc _ rfl) hS.2.2 hc hs
        · obtain ⟨⟨rfl, rfl⟩, rfl⟩ := h
          cases hke
          exact vx_throwSW (own := cN 8) (cls := eN 2) (names := pNm) hx hb hl hown okX_8.2.1 okX_8.2.2 (hT _ (okE_all 8 (by decide) _ (plk_mem (rfl : plk 379 (kE 8) = some 2))).2) (hT _ (tg_lw okX_7.2.2.2 rfl)) (hstr 2 381 _ rfl) hat2 okX_6 hU hN hS (hls.trans hml.symm) hd (by decide +kernel : decode (mB 67) 18 = .ok (.dup, 1)) (by decide +kernel : decode (mB 67) 19 = .ok (.ldc_w 381, 3)) (by decide +kernel : decode (mB 67) 22 = .ok (.invokespecial 383, 3)) (by decide +kernel : decode (mB 67) 25 = .ok (.athrow, 1)) (hout _) (by show 2 + 3 < R.frames; omega) (by show _ + (13 * (2 + 1) + 43) ≤ R.locals; omega) hcs hss hlk (hxc _ rfl) hS.2.2 hc hs
        · obtain ⟨⟨rfl, rfl⟩, rfl⟩ := h
          cases hke
          exact vx_throwS (own := cN 8) (cls := eN 1) (names := pNm) hx hb hl hown okX_8.1 okX_8.2.2 (hT _ (okE_all 8 (by decide) _ (plk_mem (rfl : plk 140 (kE 8) = some 1))).2) (hT _ (tg_lw okX_7.2.2.1 rfl)) (hstr 0 142 _ rfl) hat1 okX_5 hU hN hS (hls.trans hml.symm) hd (by decide +kernel : decode (mB 69) 152 = .ok (.dup, 1)) (by decide +kernel : decode (mB 69) 153 = .ok (.ldc 142, 2)) (by decide +kernel : decode (mB 69) 155 = .ok (.invokespecial 144, 3)) (by decide +kernel : decode (mB 69) 158 = .ok (.athrow, 1)) (hout _) (by show 2 + 3 < R.frames; omega) (by show _ + (13 * (2 + 1) + 43) ≤ R.locals; omega) hcs hss hlk (hxc _ rfl) hS.2.2 hc hs
        · obtain ⟨⟨rfl, rfl⟩, rfl⟩ := h
          cases hke
          exact vx_throwSW (own := cN 8) (cls := eN 2) (names := pNm) hx hb hl hown okX_8.2.1 okX_8.2.2 (hT _ (okE_all 8 (by decide) _ (plk_mem (rfl : plk 379 (kE 8) = some 2))).2) (hT _ (tg_lw okX_7.2.2.2 rfl)) (hstr 3 384 _ rfl) hat2 okX_6 hU hN hS (hls.trans hml.symm) hd (by decide +kernel : decode (mB 71) 21 = .ok (.dup, 1)) (by decide +kernel : decode (mB 71) 22 = .ok (.ldc_w 384, 3)) (by decide +kernel : decode (mB 71) 25 = .ok (.invokespecial 383, 3)) (by decide +kernel : decode (mB 71) 28 = .ok (.athrow, 1)) (hout _) (by show 2 + 3 < R.frames; omega) (by show _ + (13 * (2 + 1) + 43) ≤ R.locals; omega) hcs hss hlk (hxc _ rfl) hS.2.2 hc hs
        · obtain ⟨⟨rfl, rfl⟩, rfl⟩ := h
          cases hke
          exact vx_throwS (own := cN 8) (cls := eN 1) (names := pNm) hx hb hl hown okX_8.1 okX_8.2.2 (hT _ (okE_all 8 (by decide) _ (plk_mem (rfl : plk 140 (kE 8) = some 1))).2) (hT _ (tg_lw okX_7.2.2.1 rfl)) (hstr 0 142 _ rfl) hat1 okX_5 hU hN hS (hls.trans hml.symm) hd (by decide +kernel : decode (mB 74) 87 = .ok (.dup, 1)) (by decide +kernel : decode (mB 74) 88 = .ok (.ldc 142, 2)) (by decide +kernel : decode (mB 74) 90 = .ok (.invokespecial 144, 3)) (by decide +kernel : decode (mB 74) 93 = .ok (.athrow, 1)) (hout _) (by show 2 + 3 < R.frames; omega) (by show _ + (13 * (2 + 1) + 43) ≤ R.locals; omega) hcs hss hlk (hxc _ rfl) hS.2.2 hc hs
        · obtain ⟨⟨rfl, rfl⟩, rfl⟩ := h
          cases hke
          exact vx_throwSW (own := cN 8) (cls := eN 1) (names := pNm) hx hb hl hown okX_8.1 okX_8.2.2 (hT _ (okE_all 8 (by decide) _ (plk_mem (rfl : plk 140 (kE 8) = some 1))).2) (hT _ (tg_lw okX_7.2.2.1 rfl)) (hstr 1 377 _ rfl) hat1 okX_5 hU hN hS (hls.trans hml.symm) hd (by decide +kernel : decode (mB 76) 13 = .ok (.dup, 1)) (by decide +kernel : decode (mB 76) 14 = .ok (.ldc_w 377, 3)) (by decide +kernel : decode (mB 76) 17 = .ok (.invokespecial 144, 3)) (by decide +kernel : decode (mB 76) 20 = .ok (.athrow, 1)) (hout _) (by show 2 + 3 < R.frames; omega) (by show _ + (13 * (2 + 1) + 43) ≤ R.locals; omega) hcs hss hlk (hxc _ rfl) hS.2.2 hc hs
      · cases hf
    · cases hf
  · cases hf
end PTH
