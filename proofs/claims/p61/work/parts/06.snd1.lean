/-! SOUNDNESS, 1: names and places; locals; the instructions that touch no heap -/
/-- where the things of a pure world lie -/
def pad (z : Nat) (sa : Nat → Nat) (b : Nat) (r : Nat) : Nat := if r < pSB then z + r else if r < pSC then sa (r - pSB) else b
def mV (ad : Nat → Nat) (v : Value) : Value := match v with
  | .ref a => .ref (ad a)
  | v => v
theorem mV_cat (ad : Nat → Nat) (v : Value) : (mV ad v).category = v.category := by cases v <;> rfl
theorem mV_cats (ad : Nat → Nat) (S : List Value) : (S.map (mV ad)).map (fun v => v.category) = S.map (fun v => v.category) := by
  rw [List.map_map]; exact List.map_congr_left (fun v _ => mV_cat ad v)
theorem cat_sum (S : List Value) : (S.map (fun v => v.category)).sum ≤ 2 * S.length := by
  induction S with
  | nil => simp
  | cons v t ih =>
    rw [List.map_cons, List.sum_cons, List.length_cons]
    rcases lv_cat v with h | h <;> omega
def pasc (ad : Nat → Nat) (L : PL) : List (Nat × Value) := (List.range L.length).filterMap (fun i => match L.getD i none with
  | some v => some (i, mV ad v)
  | none => none)
def pLs (ad : Nat → Nat) (nL : Nat) (ls : Array Slot) (L : PL) : Prop := ls.size = nL ∧ L.length = nL ∧ lv_wf ls ∧ ∀ (i : Nat) (v : Value), L[i]? = some (some v) → ls[i]? = some (Slot.val (mV ad v))
theorem pasc_mem {ad : Nat → Nat} {L : PL} {q : Nat × Value} : q ∈ pasc ad L ↔ ∃ v, L[q.1]? = some (some v) ∧ q.2 = mV ad v := by
  obtain ⟨i, u⟩ := q
  unfold pasc
  rw [List.mem_filterMap]
  constructor
  · rintro ⟨j, hj, he⟩
    rw [List.mem_range] at hj
    cases hg : L.getD j none with
    | none => rw [hg] at he; cases he
    | some v =>
      rw [hg] at he
      simp only [Option.some.injEq, Prod.mk.injEq] at he
      obtain ⟨rfl, rfl⟩ := he
      refine ⟨v, ?_, rfl⟩
      have h2 := List.getElem?_eq_getElem hj
      rw [List.getD_eq_getElem?_getD, h2] at hg
      show L[j]? = _
      rw [h2]
      simpa using hg
  · rintro ⟨v, hv, he⟩
    have hv' : L[i]? = some (some v) := hv
    have he' : u = mV ad v := he
    refine ⟨i, List.mem_range.mpr ?_, ?_⟩
    · exact (List.getElem?_eq_some_iff.mp hv').1
    · rw [List.getD_eq_getElem?_getD, hv', he']
      rfl
theorem pls_has {ad : Nat → Nat} {nL : Nat} {ls : Array Slot} {L : PL} (h : pLs ad nL ls L) : lv_has ls nL (pasc ad L) :=
  ⟨h.1, h.2.2.1, fun q hq => by obtain ⟨v, h1, h2⟩ := pasc_mem.mp hq; rw [h2]; exact h.2.2.2 _ _ h1⟩
theorem pls_st1 {ad : Nat → Nat} {nL : Nat} {ls : Array Slot} {L : PL} {i : Nat} {v : Value} (hL : L.length = nL) (hi : i < nL)
    (h : lv_has ls nL ((i, mV ad v) :: (pasc ad L).filter (fun q => !(q.1 == i) && !(q.1 + 1 == i && q.2.category == 2)))) : pLs ad nL ls (pst1 L i v) := by
  refine ⟨h.1, ?_, h.2.1, fun j u hj => ?_⟩
  · unfold pst1
    split <;> simp [hL]
  · by_cases hji : j = i
    · subst hji
      have e : (pst1 L j v)[j]? = some (some v) := by
        unfold pst1
        rw [List.getElem?_set_self]
        split <;> simp [hL, hi]
      rw [e] at hj
      cases hj
      exact h.2.2 (j, mV ad v) List.mem_cons_self
    · have e : L[j]? = some (some u) ∧ ¬ (j + 1 = i ∧ u.category = 2) := by
        unfold pst1 at hj
        rw [List.getElem?_set_ne (Ne.symm hji)] at hj
        by_cases hc : pc2 (L.getD (i - 1) none) = true
        · rw [if_pos hc] at hj
          by_cases hj2 : j = i - 1
          · subst hj2
            exfalso
            have hlt : i - 1 < (L.set (i - 1) none).length := by rw [List.length_set, hL]; omega
            rw [List.getElem?_set_self (by rw [hL]; omega)] at hj
            cases hj
          · rw [List.getElem?_set_ne (Ne.symm hj2)] at hj
            exact ⟨hj, fun q => hj2 (by omega)⟩
        · rw [if_neg hc] at hj
          refine ⟨hj, fun q => hc ?_⟩
          have e1 : i - 1 = j := by omega
          rw [e1, List.getD_eq_getElem?_getD, hj]
          show pc2 (some u) = true
          have h2 := q.2
          cases u <;> first | rfl | (exact absurd h2 (by simp [Value.category]))
      refine h.2.2 (j, mV ad u) (List.mem_cons_of_mem _ (List.mem_filter.mpr ⟨pasc_mem.mpr ⟨u, e.1, rfl⟩, ?_⟩))
      have h2 := e.2
      simp only [mV_cat, Bool.and_eq_true, Bool.not_eq_true', beq_eq_false_iff_ne, ne_eq, Bool.and_eq_false_iff]
      refine ⟨hji, ?_⟩
      by_cases q : j + 1 = i
      · exact Or.inr (fun z => h2 ⟨q, z⟩)
      · exact Or.inl q
theorem pls_st2 {ad : Nat → Nat} {nL : Nat} {ls : Array Slot} {L : PL} {i : Nat} {v : Value} (hL : L.length = nL) (hi : i + 1 < nL)
    (h : lv_has ls nL ((i, mV ad v) :: (pasc ad L).filter (fun q => !(q.1 == i) && (!(q.1 == i + 1) && !(q.1 + 1 == i && q.2.category == 2))))) : pLs ad nL ls (pst2 L i v) := by
  refine ⟨h.1, ?_, h.2.1, fun j u hj => ?_⟩
  · unfold pst2 pst1
    split <;> simp [hL]
  · unfold pst2 at hj
    by_cases hj1 : j = i + 1
    · subst hj1
      exfalso
      rw [List.getElem?_set_self (by unfold pst1; split <;> simp [hL] <;> omega)] at hj
      cases hj
    · rw [List.getElem?_set_ne (Ne.symm hj1)] at hj
      by_cases hji : j = i
      · subst hji
        have e : (pst1 L j v)[j]? = some (some v) := by
          unfold pst1
          rw [List.getElem?_set_self]
          split <;> simp [hL] <;> omega
        rw [e] at hj
        cases hj
        exact h.2.2 (j, mV ad v) List.mem_cons_self
      · have e : L[j]? = some (some u) ∧ ¬ (j + 1 = i ∧ u.category = 2) := by
          unfold pst1 at hj
          rw [List.getElem?_set_ne (Ne.symm hji)] at hj
          by_cases hc : pc2 (L.getD (i - 1) none) = true
          · rw [if_pos hc] at hj
            by_cases hj2 : j = i - 1
            · subst hj2
              exfalso
              rw [List.getElem?_set_self (by rw [hL]; omega)] at hj
              cases hj
            · rw [List.getElem?_set_ne (Ne.symm hj2)] at hj
              exact ⟨hj, fun q => hj2 (by omega)⟩
          · rw [if_neg hc] at hj
            refine ⟨hj, fun q => hc ?_⟩
            have e1 : i - 1 = j := by omega
            rw [e1, List.getD_eq_getElem?_getD, hj]
            show pc2 (some u) = true
            have h2 := q.2
            cases u <;> first | rfl | (exact absurd h2 (by simp [Value.category]))
        refine h.2.2 (j, mV ad u) (List.mem_cons_of_mem _ (List.mem_filter.mpr ⟨pasc_mem.mpr ⟨u, e.1, rfl⟩, ?_⟩))
        have h2 := e.2
        simp only [mV_cat, Bool.and_eq_true, Bool.not_eq_true', beq_eq_false_iff_ne, ne_eq, Bool.and_eq_false_iff]
        refine ⟨hji, hj1, ?_⟩
        by_cases q : j + 1 = i
        · exact Or.inr (fun z => h2 ⟨q, z⟩)
        · exact Or.inl q
theorem pls_get {ad : Nat → Nat} {nL : Nat} {ls : Array Slot} {L : PL} (h : pLs ad nL ls L) {i : Nat} {v : Value} (hi : L.getD i none = some v) : ls[i]? = some (Slot.val (mV ad v)) := by
  refine h.2.2.2 i v ?_
  rw [List.getD_eq_getElem?_getD] at hi
  cases hg : L[i]? with
  | none => rw [hg] at hi; cases hi
  | some z => rw [hg] at hi; exact congrArg some hi
theorem pls_idx {ad : Nat → Nat} {L : PL} {i : Nat} {v : Value} (hi : L.getD i none = some v) : ∃ k : Nat, (pasc ad L)[k]? = some (i, mV ad v) := by
  have h1 : (i, mV ad v) ∈ pasc ad L := pasc_mem.mpr ⟨v, by
    rw [List.getD_eq_getElem?_getD] at hi
    cases hg : L[i]? with
    | none => rw [hg] at hi; cases hi
    | some z => rw [hg] at hi; exact congrArg some hi, rfl⟩
  exact List.mem_iff_getElem?.mp h1
section PSF
variable {p : Program} {l : Launch} {e : Env} {R : Room} {s : State} {m : MethodId} {args : Array Value} {below : List Frame} {meth : Method} {c : Code} {H : Heap} {locs : List Loc} {cells slots : Nat} {Q : State → Prop}
variable {cc : ByteArray} {pc ln nL : Nat} {i : Instr} {ls : Array Slot} {L L' : PL} {S S' : List Value} {ad : Nat → Nat}
set_option maxHeartbeats 4000000 in
theorem pf_snd (hx : p.tables.exec = Jvm.exec) (hb : c.code = cc) (hd : decode cc pc = .ok (i, ln)) (hf : pf i L S = some (ln, L', S')) (hl : pLs ad nL ls L)
    (k : ∀ ls' : Array Slot, pLs ad nL ls' L' → W p l e R s m args below meth c H locs cells slots Q (F0 m (pc + ln) ls' (S'.map (mV ad)))) :
    W p l e R s m args below meth c H locs cells slots Q (F0 m pc ls (S.map (mV ad))) := by
  unfold pf at hf
  split at hf
  · cases hf; exact lv_iconst hx hb hd rfl (k _ hl)
  · cases hf; exact lv_bipush hx hb hd rfl (k _ hl)
  · cases hf; exact lv_sipush hx hb hd rfl (k _ hl)
  · cases hf; exact lv_lconst hx hb hd rfl (k _ hl)
  · split at hf
    · rename_i hn; subst hn; cases hf; exact lv_fconst1 hx hb hd (k _ hl)
    · cases hf
  · split at hf
    · rename_i hn; subst hn; cases hf; exact lv_dconst0 hx hb hd (k _ hl)
    · cases hf
  · unfold pldi at hf
    split at hf
    · rename_i hg; cases hf; exact lv_iload_n hx hb hd rfl (pls_get hl hg) (k _ hl)
    · cases hf
  · unfold pldi at hf
    split at hf
    · rename_i hg; cases hf; exact lv_iload hx hb hd (pls_get hl hg) (k _ hl)
    · cases hf
  · unfold pldl at hf
    split at hf
    · rename_i hg; cases hf; exact lv_lload_n hx hb hd rfl (pls_get hl hg) (k _ hl)
    · cases hf
  · unfold pldl at hf
    split at hf
    · rename_i hg; cases hf; exact lv_lload hx hb hd (pls_get hl hg) (k _ hl)
    · cases hf
  · unfold plda at hf
    split at hf
    · rename_i hg; cases hf; exact lv_aload_n hx hb hd rfl (pls_get hl hg) (k _ hl)
    · cases hf
  · unfold plda at hf
    split at hf
    · rename_i hg; cases hf; exact lv_aload hx hb hd (pls_get hl hg) (k _ hl)
    · cases hf
  · unfold pldd at hf
    split at hf
    · rename_i hg; cases hf; exact lv_dload hx hb hd (pls_get hl hg) (k _ hl)
    · cases hf
  · unfold psti at hf
    split at hf
    · split at hf
      · rename_i hn; cases hf; exact lv_istore_n hx hb hd rfl (pls_has hl) (by rw [← hl.2.1]; exact hn) rfl (fun ls9 h9 => k _ (pls_st1 hl.2.1 (by rw [← hl.2.1]; exact hn) h9))
      · cases hf
    · cases hf
  · unfold psti at hf
    split at hf
    · split at hf
      · rename_i hn; cases hf; exact lv_istore hx hb hd (pls_has hl) (by rw [← hl.2.1]; exact hn) rfl (fun ls9 h9 => k _ (pls_st1 hl.2.1 (by rw [← hl.2.1]; exact hn) h9))
      · cases hf
    · cases hf
  · unfold pstl at hf
    split at hf
    · split at hf
      · rename_i hn; cases hf; exact lv_lstore_n hx hb hd rfl (pls_has hl) (by rw [← hl.2.1]; exact hn) rfl (fun ls9 h9 => k _ (pls_st2 hl.2.1 (by rw [← hl.2.1]; exact hn) h9))
      · cases hf
    · cases hf
  · unfold pstl at hf
    split at hf
    · split at hf
      · rename_i hn; cases hf; exact lv_lstore hx hb hd (pls_has hl) (by rw [← hl.2.1]; exact hn) rfl (fun ls9 h9 => k _ (pls_st2 hl.2.1 (by rw [← hl.2.1]; exact hn) h9))
      · cases hf
    · cases hf
  · unfold psta at hf
    split at hf
    · split at hf
      · rename_i hn; cases hf; exact lv_astore_n hx hb hd rfl (pls_has hl) (by rw [← hl.2.1]; exact hn) rfl (fun ls9 h9 => k _ (pls_st1 hl.2.1 (by rw [← hl.2.1]; exact hn) h9))
      · cases hf
    · cases hf
  · unfold psta at hf
    split at hf
    · split at hf
      · rename_i hn; cases hf; exact lv_astore hx hb hd (pls_has hl) (by rw [← hl.2.1]; exact hn) rfl (fun ls9 h9 => k _ (pls_st1 hl.2.1 (by rw [← hl.2.1]; exact hn) h9))
      · cases hf
    · cases hf
  · unfold pstd at hf
    split at hf
    · split at hf
      · rename_i hn; cases hf; exact lv_dstore hx hb hd (pls_has hl) (by rw [← hl.2.1]; exact hn) rfl (fun ls9 h9 => k _ (pls_st2 hl.2.1 (by rw [← hl.2.1]; exact hn) h9))
      · cases hf
    · cases hf
  · split at hf
    · rename_i hg
      cases hf
      obtain ⟨k9, hk9⟩ := pls_idx (ad := ad) hg
      have hlt := lv_lt (pls_get hl hg)
      rw [hl.1] at hlt
      exact lv_iinc hx hb hd (pls_has hl) hk9 rfl hlt rfl (fun ls9 h9 => k _ (pls_st1 hl.2.1 hlt h9))
    · cases hf
  · split at hf
    · split at hf
      · rename_i hc; cases hf; exact lv_dup hx hb hd (by rw [mV_cat]; exact hc) (k _ hl)
      · cases hf
    · cases hf
  · split at hf
    · split at hf
      · rename_i hc; cases hf; exact lv_pop hx hb hd (by rw [mV_cat]; exact hc) (k _ hl)
      · cases hf
    · cases hf
  · split at hf
    · split at hf
      · rename_i hc; cases hf; exact lv_dup2_11 hx hb hd (by rw [mV_cat]; exact hc.1) (by rw [mV_cat]; exact hc.2) (k _ hl)
      · cases hf
    · cases hf
  · split at hf
    · cases hf; exact lv_iadd hx hb hd (k _ hl)
    · cases hf
  · split at hf
    · cases hf; exact lv_isub hx hb hd (k _ hl)
    · cases hf
  · split at hf
    · cases hf; exact lv_imul hx hb hd (k _ hl)
    · cases hf
  · split at hf
    · cases hf; exact lv_iand hx hb hd (k _ hl)
    · cases hf
  · split at hf
    · cases hf; exact lv_ior hx hb hd (k _ hl)
    · cases hf
  · split at hf
    · cases hf; exact lv_ixor hx hb hd (k _ hl)
    · cases hf
  · split at hf
    · split at hf
      · cases hf
      · rename_i hn; cases hf; exact lv_idiv hx hb hd hn (k _ hl)
    · cases hf
  · split at hf
    · split at hf
      · cases hf
      · rename_i hn; cases hf; exact lv_irem hx hb hd hn (k _ hl)
    · cases hf
  · split at hf
    · cases hf; exact lv_ishl hx hb hd (k _ hl)
    · cases hf
  · split at hf
    · cases hf; exact lv_ishr hx hb hd (k _ hl)
    · cases hf
  · split at hf
    · cases hf; exact lv_iushr hx hb hd rfl (k _ hl)
    · cases hf
  · split at hf
    · cases hf; exact lv_lshl hx hb hd rfl (k _ hl)
    · cases hf
  · split at hf
    · cases hf; exact lv_lshr hx hb hd rfl (k _ hl)
    · cases hf
  · split at hf
    · cases hf; exact lv_lushr hx hb hd rfl (k _ hl)
    · cases hf
  · split at hf
    · cases hf; exact lv_ladd hx hb hd (k _ hl)
    · cases hf
  · split at hf
    · cases hf; exact lv_lsub hx hb hd (k _ hl)
    · cases hf
  · split at hf
    · cases hf; exact lv_lmul hx hb hd (k _ hl)
    · cases hf
  · split at hf
    · cases hf; exact lv_land hx hb hd (k _ hl)
    · cases hf
  · split at hf
    · cases hf; exact lv_lor hx hb hd (k _ hl)
    · cases hf
  · split at hf
    · cases hf; exact lv_lxor hx hb hd (k _ hl)
    · cases hf
  · split at hf
    · cases hf; exact W.lcmp hx hb hd (k _ hl)
    · cases hf
  · split at hf
    · cases hf; exact lv_i2l hx hb hd rfl (k _ hl)
    · cases hf
  · split at hf
    · cases hf; exact lv_l2i hx hb hd rfl (k _ hl)
    · cases hf
  · split at hf
    · cases hf; exact lv_i2b hx hb hd rfl (k _ hl)
    · cases hf
  · split at hf
    · cases hf; exact lv_i2c hx hb hd rfl (k _ hl)
    · cases hf
  · split at hf
    · cases hf; exact lv_i2d hx hb hd (k _ hl)
    · cases hf
  · split at hf
    · cases hf; exact lv_i2f hx hb hd (k _ hl)
    · cases hf
  · split at hf
    · split at hf
      · rename_i hn; cases hf; exact lv_f2d hx hb hd hn (k _ hl)
      · cases hf
    · cases hf
  · split at hf
    · split at hf
      · rename_i hn; cases hf; exact lv_ddiv hx hb hd hn (k _ hl)
      · cases hf
    · cases hf
  · split at hf
    · split at hf
      · rename_i hn; cases hf; exact lv_fdiv hx hb hd hn (k _ hl)
      · cases hf
    · cases hf
  · split at hf
    · cases hf; exact lv_dcmp hx hb hd (k _ hl)
    · cases hf
  · cases hf
end PSF
