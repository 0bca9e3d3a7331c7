/-! SOUNDNESS, 6: words of the strings' own members -/
set_option maxRecDepth 100000 in
theorem okK_coder_c : Cond.code yJ0_coder_7d493 cJ0_coder_7d493 1 (some .byte) ∈ TG := tg 334 rfl rfl
set_option maxRecDepth 100000 in
theorem okK_coder_i : Cond.instanceMethod yJ0_coder_7d493 ∈ TG := tg 332 rfl rfl
set_option maxRecDepth 100000 in
theorem okK_coder_v : Cond.selects "java/lang/String" yJ0_coder_7d493 yJ0_coder_7d493 ∈ TG := tg 333 rfl rfl
set_option maxRecDepth 100000 in
theorem okK_len_c : Cond.code yJ0_length_8abf5 cJ0_length_8abf5 1 (some .int) ∈ TG := tg 330 rfl rfl
set_option maxRecDepth 100000 in
theorem okK_len_i : Cond.instanceMethod yJ0_length_8abf5 ∈ TG := tg 328 rfl rfl
set_option maxRecDepth 100000 in
theorem okK_len_v : Cond.selects "java/lang/String" yJ0_length_8abf5 yJ0_length_8abf5 ∈ TG := tg 329 rfl rfl
set_option maxRecDepth 100000 in
theorem okK_lat_c : Cond.code yJ0_isLatin1_aae02 cJ0_isLatin1_aae02 1 (some .boolean) ∈ TG := tg 344 rfl rfl
set_option maxRecDepth 100000 in
theorem okK_lat_i : Cond.instanceMethod yJ0_isLatin1_aae02 ∈ TG := tg 342 rfl rfl
set_option maxRecDepth 100000 in
theorem okK_lat_v : Cond.selects "java/lang/String" yJ0_isLatin1_aae02 yJ0_isLatin1_aae02 ∈ TG := tg 343 rfl rfl
set_option maxRecDepth 100000 in
theorem okK_chA_c : Cond.code yJ0_charAt_5068e cJ0_charAt_5068e 2 (some .char) ∈ TG := tg 340 rfl rfl
set_option maxRecDepth 100000 in
theorem okK_chA_i : Cond.instanceMethod yJ0_charAt_5068e ∈ TG := tg 338 rfl rfl
set_option maxRecDepth 100000 in
theorem okK_chA_v : Cond.selects "java/lang/String" yJ0_charAt_5068e yJ0_charAt_5068e ∈ TG := tg 339 rfl rfl
set_option maxRecDepth 100000 in
theorem okK_chL_c : Cond.code yJ1_charAt_3b067 cJ1_charAt_3b067 2 (some .char) ∈ TG := tg 347 rfl rfl
set_option maxRecDepth 100000 in
theorem okK_chL_s : Cond.static yJ1_charAt_3b067 ∈ TG := tg 346 rfl rfl
set_option maxRecDepth 100000 in
theorem okK_ck_c : Cond.code yJ0_checkIndex_df160 cJ0_checkIndex_df160 2 none ∈ TG := tg 350 rfl rfl
set_option maxRecDepth 100000 in
theorem okK_ck_s : Cond.static yJ0_checkIndex_df160 ∈ TG := tg 349 rfl rfl
set_option maxRecDepth 100000 in
theorem okK_ckP_c : Cond.code yJ3_checkIndex_8e157 cJ3_checkIndex_8e157 3 (some .int) ∈ TG := tg 355 rfl rfl
set_option maxRecDepth 100000 in
theorem okK_ckP_s : Cond.static yJ3_checkIndex_8e157 ∈ TG := tg 354 rfl rfl
set_option maxRecDepth 100000 in
theorem okK_l335 : Cond.methodLink "java/lang/String" 335 yJ0_coder_7d493 ∈ TG := tg 331 rfl rfl
set_option maxRecDepth 100000 in
theorem okK_l492 : Cond.methodLink "java/lang/String" 492 yJ0_isLatin1_aae02 ∈ TG := tg 341 rfl rfl
set_option maxRecDepth 100000 in
theorem okK_l495 : Cond.methodLink "java/lang/String" 495 yJ1_charAt_3b067 ∈ TG := tg 345 rfl rfl
set_option maxRecDepth 100000 in
theorem okK_l9 : Cond.methodLink "java/lang/StringLatin1" 9 yJ0_checkIndex_df160 ∈ TG := tg 348 rfl rfl
set_option maxRecDepth 100000 in
theorem okK_l1059 : Cond.methodLink "java/lang/String" 1059 yJ3_checkIndex_8e157 ∈ TG := tg 353 rfl rfl
set_option maxRecDepth 100000 in
theorem okK_f38 : Cond.fieldLink "java/lang/String" 38 "java/lang/String" "COMPACT_STRINGS" "Z" ∈ TG := tg 335 rfl rfl
set_option maxRecDepth 100000 in
theorem okK_f15 : Cond.fieldLink "java/lang/String" 15 "java/lang/String" "coder" "B" ∈ TG := tg 769 rfl rfl
set_option maxRecDepth 100000 in
theorem okK_f9 : Cond.fieldLink "java/lang/String" 9 "java/lang/String" "value" "[B" ∈ TG := tg 768 rfl rfl
set_option maxRecDepth 100000 in
theorem okK_f1053 : Cond.fieldLink "java/lang/String" 1053 "jdk/internal/util/Preconditions" "SIOOBE_FORMATTER" "Ljava/util/function/BiFunction;" ∈ TG := tg 351 rfl rfl
set_option maxRecDepth 100000 in
theorem okK_iS : Cond.initialized "java/lang/String" ∈ TG := tg 40 rfl rfl
set_option maxRecDepth 100000 in
theorem okK_iL : Cond.initialized "java/lang/StringLatin1" ∈ TG := tg 45 rfl rfl
set_option maxRecDepth 100000 in
theorem okK_iP : Cond.initialized "jdk/internal/util/Preconditions" ∈ TG := tg 44 rfl rfl
/-! entries -/
theorem psl_len (ad : Nat → Nat) (a : List Value) : (lg_sl (a.map (mV ad))).length = (pargs a).length := by
  induction a with
  | nil => rfl
  | cons v t ih =>
    show ((if (mV ad v).category = 2 then [Slot.val (mV ad v), .second] else [.val (mV ad v)]) ++ lg_sl (t.map (mV ad))).length = (if v.category = 2 then some v :: none :: pargs t else some v :: pargs t).length
    rw [List.length_append, ih, mV_cat]
    by_cases h : v.category = 2
    · rw [if_pos h, if_pos h]; simp only [List.length_cons, List.length_nil]; omega
    · rw [if_neg h, if_neg h]; simp only [List.length_cons, List.length_nil]; omega
theorem pargs_at (ad : Nat → Nat) : ∀ (a : List Value) (k i : Nat) (v : Value), (pargs a)[i]? = some (some v) → (k + i, mV ad v) ∈ lv_args k (a.map (mV ad)) := by
  intro a
  induction a with
  | nil => intro k i v h; exact absurd h (by simp [pargs])
  | cons u t ih =>
    intro k i v h
    show (k + i, mV ad v) ∈ (k, mV ad u) :: lv_args (if (mV ad u).category = 2 then k + 2 else k + 1) (t.map (mV ad))
    have h' : (if u.category = 2 then some u :: none :: pargs t else some u :: pargs t)[i]? = some (some v) := h
    rw [mV_cat]
    by_cases hc : u.category = 2
    · rw [if_pos hc] at h' ⊢
      match i, h' with
      | 0, h' =>
        cases h'
        exact List.mem_cons_self
      | 1, h' => cases h'
      | j + 2, h' =>
        refine List.mem_cons_of_mem _ ?_
        have := ih (k + 2) j v h'
        rwa [show k + 2 + j = k + (j + 2) by omega] at this
    · rw [if_neg hc] at h' ⊢
      match i, h' with
      | 0, h' =>
        cases h'
        exact List.mem_cons_self
      | j + 1, h' =>
        refine List.mem_cons_of_mem _ ?_
        have := ih (k + 1) j v h'
        rwa [show k + 1 + j = k + (j + 1) by omega] at this
theorem pls_entry (ad : Nat → Nat) (a : List Value) {nL : Nat} (h : (pargs a).length ≤ nL) : pLs ad nL ((lg_sl (a.map (mV ad)) ++ List.replicate (nL - (lg_sl (a.map (mV ad))).length) Slot.unset).toArray) (pargs a ++ List.replicate (nL - (pargs a).length) none) := by
  have hlen := psl_len ad a
  obtain ⟨h1, h2, h3⟩ := lv_entry (a.map (mV ad)) (n := nL) (by rw [hlen]; exact h)
  refine ⟨h1, by simp; omega, h2, fun i v hi => ?_⟩
  have hlt : i < (pargs a).length := by
    refine Nat.not_le.mp fun hle => ?_
    rw [List.getElem?_append_right hle, List.getElem?_replicate] at hi
    split at hi <;> simp at hi
  rw [List.getElem?_append_left hlt] at hi
  have := pargs_at ad a 0 i v hi
  rw [Nat.zero_add] at this
  exact h3 _ this
/-! the strings' own members -/
abbrev pJf (a b : Nat) : Room := { frames := a, locals := b, cells := 0, slots := 0 }
def pcJ (z : Nat) (s0 : State) (av : List Value) : Array Value → State → Prop := fun a U => a = av.toArray ∧ s0.WarmedH U.vm ∧ va_S (pA z s0.heap.size) s0.heap U.heap []
theorem pcJ_blind {z : Nat} {s0 : State} {av : List Value} : FrameBlind (pcJ z s0 av) := fun _ _ _ _ h => h
theorem pj_at {s0 s : State} {a0 : Array Value} (hF : ∀ w ∈ lw_tbl, w.before a0 s0 = true) (hW : s0.WarmedH s.vm) (a : Array Value) : ∀ w ∈ TG, w.before a s = true :=
  fun w h => pay_in (big := TG) (ws := TG) (args := a0) (fun w h => hF w (List.mem_filter.mp h).1) TG_in w h a s hW
theorem pj_cb {R : Room} {s : State} {args : Array Value} {own : String} {index n maxL : Nat} {y : MethodName} {bytes : ByteArray} {ret : Option FieldType} {rm : Room} (ht : ∀ w ∈ TG, w.before args s = true) (hc : Cond.code y bytes maxL ret ∈ TG) (hini : Cond.initialized y.cls ∈ TG) (hl : Cond.methodLink own index y ∈ TG)
    (hd : y.cls ≠ "java/lang/invoke/MethodHandle" ∧ y.cls ≠ "java/lang/invoke/VarHandle" ∧ (parseMethodDescriptor y.desc).map (fun d => d.parameters.length) = some n) (hR : rm.frames + 1 ≤ R.frames ∧ 8 + (maxL + 11) + rm.locals ≤ R.locals) :
    CallB R s args own index y bytes maxL ret [Cond.code y bytes maxL ret] rm rm.cells rm.slots n :=
  callB_of n ht (fun w h => TG_in w (by rw [List.mem_singleton.mp h]; exact hc)) rfl rfl rfl (ht _ hini) (ht _ hl) hd hR
theorem getD_mem {α : Type} {l : List α} {k : Nat} (h : k < l.length) (d : α) : l.getD k d ∈ l := by
  rw [List.getD_eq_getElem?_getD, List.getElem?_eq_getElem h]
  exact List.getElem_mem _
theorem getD_map {α β : Type} (f : α → β) (l : List α) {k : Nat} (h : k < l.length) (d : α) (e : β) : (l.map f).getD k e = f (l.getD k d) := by
  rw [List.getD_eq_getElem?_getD, List.getElem?_map, List.getD_eq_getElem?_getD, List.getElem?_eq_getElem h]
  rfl
theorem sOw_ch : ∀ i, i < 38 → (sTx.getD i []).length < 1000 ∧ ∀ c ∈ sTx.getD i [], c < 128 := by decide +kernel
theorem pch_ok : ∀ c, c < 128 → ((Int32.ofNat c &&& 255).toUInt32 % 65536).toInt32 = Int32.ofNat c ∧ narrow .char (.int (Int32.ofNat c)) = .int (Int32.ofNat c) := by decide +kernel
section PJ
variable {l : Launch} {D : va_G} {cy : Nat → ClassId} {sa sv : Nat → Nat} {b Ls z : Nat} {xs : Nat → Int32} {tx : List Nat} {s0 : State} {a0 : Array Value}
theorem pj_coder (hF : pFx l D cy sa sv b Ls z xs tx s0 a0) {t : List Nat} {ad av : Nat} (hE0 : pSt t ad av (pA z s0.heap.size) s0 s0.heap) (hch0 : pch t) : Met l yJ0_coder_7d493 [Cond.code yJ0_coder_7d493 cJ0_coder_7d493 1 (some .byte)] (pJf 0 0) (pcJ z s0 [.ref ad]) (QcRead 0) 0 0 (fun _ => False) := by
  refine Met.ofW (by decide) rfl fun p e s m args below meth c s₁ B hml hP => ?_
  obtain ⟨rfl, hW, hS⟩ := hP
  have hx := B.exec
  have hb := B.bytes
  have hT := pj_at hF.1.1 hW #[Value.ref ad]
  have hZ := (va_Z.moved hW.alike hF.2.2.2.2.1).kept hS.2.1
  have hE := (hE0.at).2.1.moved hW.alike |>.kept hS.2.1
  have hown := findClass_of_methodNamed B.named
  have hl := pls_entry (fun x => x) [.ref ad] (nL := 1) (Nat.le_of_ble_eq_true rfl)
  rw [lg_entry_eq]
  refine va_gets hx hb hZ va_S.rf hown (hT _ okK_f38) (fun _ h => h) (by decide +kernel : decode cJ0_coder_7d493 0 = .ok (.getstatic 38, 3)) ?_
  refine lv_if_eq hx hb (by decide +kernel : decode cJ0_coder_7d493 3 = .ok (.ifCond .eq 10, 3)) (tgt := 13) (by decide) (fun q => absurd q (by decide)) fun _ => ?_
  refine lv_aload_n hx hb (by decide +kernel : decode cJ0_coder_7d493 6 = .ok (.aload_n 0, 1)) (i := 0) rfl (hl.2.2.2 0 (.ref ad) rfl) ?_
  refine vk_getf hx hb hE va_S.rf hown (hT _ okK_f15) (fun _ h => h) (by decide +kernel : decode cJ0_coder_7d493 7 = .ok (.getfield 15, 3)) ?_
  refine lv_goto hx hb (by decide +kernel : decode cJ0_coder_7d493 10 = .ok (.goto 4, 3)) (tgt := 14) (by decide) ?_
  exact W.zret hx hb B.returns rfl (fun t ht _ => ⟨rfl, ht⟩) (fun q h => by cases h) (by decide +kernel : decode cJ0_coder_7d493 14 = .ok (.ireturn, 1)) B.notSynchronized
theorem pj_lat (hF : pFx l D cy sa sv b Ls z xs tx s0 a0) {t : List Nat} {ad av : Nat} (hE0 : pSt t ad av (pA z s0.heap.size) s0 s0.heap) (hch0 : pch t) : Met l yJ0_isLatin1_aae02 [Cond.code yJ0_isLatin1_aae02 cJ0_isLatin1_aae02 1 (some .boolean)] (pJf 0 0) (pcJ z s0 [.ref ad]) (QcRead 1) 0 0 (fun _ => False) := by
  refine Met.ofW (by decide) rfl fun p e s m args below meth c s₁ B hml hP => ?_
  obtain ⟨rfl, hW, hS⟩ := hP
  have hx := B.exec
  have hb := B.bytes
  have hT := pj_at hF.1.1 hW #[Value.ref ad]
  have hZ := (va_Z.moved hW.alike hF.2.2.2.2.1).kept hS.2.1
  have hE := (hE0.at).2.1.moved hW.alike |>.kept hS.2.1
  have hown := findClass_of_methodNamed B.named
  have hl := pls_entry (fun x => x) [.ref ad] (nL := 1) (Nat.le_of_ble_eq_true rfl)
  rw [lg_entry_eq]
  refine va_gets hx hb hZ va_S.rf hown (hT _ okK_f38) (fun _ h => h) (by decide +kernel : decode cJ0_isLatin1_aae02 0 = .ok (.getstatic 38, 3)) ?_
  refine lv_if_eq hx hb (by decide +kernel : decode cJ0_isLatin1_aae02 3 = .ok (.ifCond .eq 14, 3)) (tgt := 17) (by decide) (fun q => absurd q (by decide)) fun _ => ?_
  refine lv_aload_n hx hb (by decide +kernel : decode cJ0_isLatin1_aae02 6 = .ok (.aload_n 0, 1)) (i := 0) rfl (hl.2.2.2 0 (.ref ad) rfl) ?_
  refine vk_getf hx hb hE va_S.rf hown (hT _ okK_f15) (fun _ h => h) (by decide +kernel : decode cJ0_isLatin1_aae02 7 = .ok (.getfield 15, 3)) ?_
  refine lv_if_ne hx hb (by decide +kernel : decode cJ0_isLatin1_aae02 10 = .ok (.ifCond .ne 7, 3)) (tgt := 17) (by decide) (fun q => absurd rfl q) fun _ => ?_
  refine lv_iconst hx hb (by decide +kernel : decode cJ0_isLatin1_aae02 13 = .ok (.iconst 1, 1)) (v := 1) rfl ?_
  refine lv_goto hx hb (by decide +kernel : decode cJ0_isLatin1_aae02 14 = .ok (.goto 4, 3)) (tgt := 18) (by decide) ?_
  exact W.zret hx hb B.returns rfl (fun t ht _ => ⟨rfl, ht⟩) (fun q h => by cases h) (by decide +kernel : decode cJ0_isLatin1_aae02 18 = .ok (.ireturn, 1)) B.notSynchronized
theorem pj_len (hF : pFx l D cy sa sv b Ls z xs tx s0 a0) {t : List Nat} {ad av : Nat} (hE0 : pSt t ad av (pA z s0.heap.size) s0 s0.heap) (hch0 : pch t) : Met l yJ0_length_8abf5 [Cond.code yJ0_length_8abf5 cJ0_length_8abf5 1 (some .int)] (pJf 1 20) (pcJ z s0 [.ref ad]) (QcRead (Int32.ofNat t.length)) 0 0 (fun _ => False) := by
  refine Met.ofW (by decide) rfl fun p e s m args below meth c s₁ B hml hP => ?_
  obtain ⟨rfl, hW, hS⟩ := hP
  have hx := B.exec
  have hb := B.bytes
  have hT := pj_at hF.1.1 hW #[Value.ref ad]
  have hV := (hE0.at).2.2.1.moved hW.alike |>.kept hS.2.1
  have hA := (hE0.at).2.2.2.moved hW.alike |>.kept hS.2.1
  have hSS := (pSt.moved hW.alike hE0).kept hS.2.1
  have hown := findClass_of_methodNamed B.named
  have hl := pls_entry (fun x => x) [.ref ad] (nL := 1) (Nat.le_of_ble_eq_true rfl)
  have hsh : ∀ x : Int32, x >>> ((0 : Int32) &&& 31) = x := fun x => by
    have e0 : (0 : Int32) &&& 31 = 0 := by decide
    rw [e0, Int32.shiftRight_zero]
  rw [lg_entry_eq]
  refine lv_aload_n hx hb (by decide +kernel : decode cJ0_length_8abf5 0 = .ok (.aload_n 0, 1)) (i := 0) rfl (hl.2.2.2 0 (.ref ad) rfl) ?_
  refine vk_getf hx hb hV va_S.rf hown (hT _ okK_f9) (fun _ h => h) (by decide +kernel : decode cJ0_length_8abf5 1 = .ok (.getfield 9, 3)) ?_
  refine va_tlen hx hb hA va_S.rf rfl (by decide +kernel : decode cJ0_length_8abf5 4 = .ok (.arraylength, 1)) ?_
  refine lv_aload_n hx hb (by decide +kernel : decode cJ0_length_8abf5 5 = .ok (.aload_n 0, 1)) (i := 0) rfl (hl.2.2.2 0 (.ref ad) rfl) ?_
  refine W.callR (W.runV (C := "java/lang/String") (Ts := TG) (As := []) (n := 0) (nL := 1) (rest := [.int (Int32.ofNat t.length)]) ⟨hx, hb, hml, hown, hT⟩ (pj_coder hF hE0 hch0) ⟨pj_cb hT okK_coder_c okK_iS okK_l335 ⟨by decide, by decide, rfl⟩ ⟨by decide, by decide⟩, hT _ okK_coder_i, hT _ okK_coder_v⟩ ⟨pcJ_blind, vk_recv hSS Nat.zero_lt_one va_S.rf, fun U hU hWU => ⟨rfl, State.WarmedH.trans hW hWU, by rw [hU]; exact hS⟩⟩ rfl rfl hl.1 rfl (by show 2 * 0 + 1 ≤ 8; decide) (by decide +kernel : decode cJ0_length_8abf5 6 = .ok (.invokevirtual 335, 3)) ⟨Nat.zero_le _, Nat.zero_le _⟩) ?_
  refine lv_ishr hx hb (by decide +kernel : decode cJ0_length_8abf5 9 = .ok (.ishr, 1)) ?_
  rw [hsh]
  exact W.iret hx hb B.returns (fun t ht _ => ⟨rfl, ht⟩) (fun q h => by cases h) (by decide +kernel : decode cJ0_length_8abf5 10 = .ok (.ireturn, 1)) B.notSynchronized
theorem pj_ckP {x n : Int32} {v : Value} (h0 : ¬ x < 0) (h1 : x < n) (hv : v.category = 1) : Met l yJ3_checkIndex_8e157 [Cond.code yJ3_checkIndex_8e157 cJ3_checkIndex_8e157 3 (some .int)] (pJf 0 0) (pcJ z s0 [.int x, .int n, v]) (QcRead x) 0 0 (fun _ => False) := by
  refine Met.ofW (by decide) rfl fun p e s m args below meth c s₁ B hml hP => ?_
  obtain ⟨rfl, hW, hS⟩ := hP
  have hx := B.exec
  have hb := B.bytes
  have hm : [Value.int x, .int n, v].map (mV (fun z => z)) = [.int x, .int n, v] := by cases v <;> rfl
  have hp : pargs [Value.int x, .int n, v] = [some (.int x), some (.int n), some v] := by cases v <;> first | rfl | exact absurd hv (show ¬ (2 : Nat) = 1 by decide)
  have hl := pls_entry (fun x => x) [.int x, .int n, v] (nL := 3) (by rw [hp]; exact Nat.le_of_ble_eq_true rfl)
  rw [hm, hp] at hl
  rw [lg_entry_eq]
  refine lv_iload_n hx hb (by decide +kernel : decode cJ3_checkIndex_8e157 0 = .ok (.iload_n 0, 1)) (i := 0) rfl (hl.2.2.2 0 (.int x) rfl) ?_
  refine lv_if_lt hx hb (by decide +kernel : decode cJ3_checkIndex_8e157 1 = .ok (.ifCond .lt 8, 3)) (tgt := 9) (by decide) (fun q => absurd q h0) fun _ => ?_
  refine lv_iload_n hx hb (by decide +kernel : decode cJ3_checkIndex_8e157 4 = .ok (.iload_n 0, 1)) (i := 0) rfl (hl.2.2.2 0 (.int x) rfl) ?_
  refine lv_iload_n hx hb (by decide +kernel : decode cJ3_checkIndex_8e157 5 = .ok (.iload_n 1, 1)) (i := 1) rfl (hl.2.2.2 1 (.int n) rfl) ?_
  refine lv_icmp_lt hx hb (by decide +kernel : decode cJ3_checkIndex_8e157 6 = .ok (.if_icmp .lt 10, 3)) (tgt := 16) (by decide) (fun _ => ?_) fun q => absurd h1 q
  refine lv_iload_n hx hb (by decide +kernel : decode cJ3_checkIndex_8e157 16 = .ok (.iload_n 0, 1)) (i := 0) rfl (hl.2.2.2 0 (.int x) rfl) ?_
  exact W.iret hx hb B.returns (fun t ht _ => ⟨rfl, ht⟩) (fun q h => by cases h) (by decide +kernel : decode cJ3_checkIndex_8e157 17 = .ok (.ireturn, 1)) B.notSynchronized
def QcVoid : Array Value → State → Outcome → State → Prop := fun _ st o t => o = .returned none ∧ t.heap = st.heap
theorem pj_ck (hF : pFx l D cy sa sv b Ls z xs tx s0 a0) {x n : Int32} (h0 : ¬ x < 0) (h1 : x < n) : Met l yJ0_checkIndex_df160 [Cond.code yJ0_checkIndex_df160 cJ0_checkIndex_df160 2 none] (pJf 1 22) (pcJ z s0 [.int x, .int n]) QcVoid 0 0 (fun _ => False) := by
  refine Met.ofW (by decide) rfl fun p e s m args below meth c s₁ B hml hP => ?_
  obtain ⟨rfl, hW, hS⟩ := hP
  have hx := B.exec
  have hb := B.bytes
  have hT := pj_at hF.1.1 hW #[Value.int x, .int n]
  have hown := findClass_of_methodNamed B.named
  have hl := pls_entry (fun x => x) [.int x, .int n] (nL := 2) (Nat.le_of_ble_eq_true rfl)
  have fin : ∀ v : Value, v.category = 1 → va_Z "jdk/internal/util/Preconditions" "SIOOBE_FORMATTER" "Ljava/util/function/BiFunction;" v (pA z s0.heap.size) s0 s0.heap → W p l e (headSpec [Cond.code yJ0_checkIndex_df160 cJ0_checkIndex_df160 2 none] (pJf 1 22)).room s m [Value.int x, .int n].toArray below meth c s.heap [] 0 0 (MQ below QcVoid [Value.int x, .int n].toArray s 0 0 (fun _ => False)) (entryFrame m [Value.int x, .int n].toArray 2) := by
    intro v hv hZ0
    have hZ := (va_Z.moved hW.alike hZ0).kept hS.2.1
    rw [lg_entry_eq]
    refine lv_iload_n hx hb (by decide +kernel : decode cJ0_checkIndex_df160 0 = .ok (.iload_n 0, 1)) (i := 0) rfl (hl.2.2.2 0 (.int x) rfl) ?_
    refine lv_iload_n hx hb (by decide +kernel : decode cJ0_checkIndex_df160 1 = .ok (.iload_n 1, 1)) (i := 1) rfl (hl.2.2.2 1 (.int n) rfl) ?_
    refine va_gets hx hb hZ va_S.rf hown (hT _ okK_f1053) (fun _ h => h) (by decide +kernel : decode cJ0_checkIndex_df160 2 = .ok (.getstatic 1053, 3)) ?_
    refine W.callR (W.runS (Ts := TG) (As := [.int x, .int n, v]) (n := 3) (nL := 2) (rest := []) ⟨hx, hb, hml, hown, hT⟩ (pj_ckP h0 h1 hv) ⟨pj_cb hT okK_ckP_c okK_iP okK_l1059 ⟨by decide, by decide, by decide +kernel⟩ ⟨by decide, by decide⟩, hT _ okK_ckP_s⟩ ⟨pcJ_blind, fun U hU hWU => ⟨rfl, State.WarmedH.trans hW hWU, by rw [hU]; exact hS⟩⟩ rfl rfl hl.1 rfl (room0 rfl) (by decide +kernel : decode cJ0_checkIndex_df160 5 = .ok (.invokestatic 1059, 3)) ⟨Nat.zero_le _, Nat.zero_le _⟩) ?_
    refine lv_pop hx hb (by decide +kernel : decode cJ0_checkIndex_df160 8 = .ok (.pop, 1)) rfl ?_
    exact W.vret hx hb B.returns (fun t ht _ => ⟨rfl, ht⟩) (fun q h => by cases h) (by decide +kernel : decode cJ0_checkIndex_df160 9 = .ok (.return_, 1)) B.notSynchronized
  rcases hF.2.2.2.2.2 with h | ⟨t, h⟩
  · exact fin .null rfl h
  · exact fin (.ref t) rfl h
theorem pj_chL (hF : pFx l D cy sa sv b Ls z xs tx s0 a0) {t : List Nat} {ad av : Nat} (hE0 : pSt t ad av (pA z s0.heap.size) s0 s0.heap) (hch0 : pch t) {x : Int32} (h0 : ¬ x < 0) (h1 : x.toNatClampNeg < t.length) : Met l yJ1_charAt_3b067 [Cond.code yJ1_charAt_3b067 cJ1_charAt_3b067 2 (some .char)] (pJf 2 43) (pcJ z s0 [.ref av, .int x]) (QcRead (Int32.ofNat (t.getD x.toNatClampNeg 0))) 0 0 (fun _ => False) := by
  refine Met.ofW (by decide) rfl fun p e s m args below meth c s₁ B hml hP => ?_
  obtain ⟨rfl, hW, hS⟩ := hP
  have hx := B.exec
  have hb := B.bytes
  have hT := pj_at hF.1.1 hW #[Value.ref av, .int x]
  have hA := (hE0.at).2.2.2.moved hW.alike |>.kept hS.2.1
  obtain ⟨hL1, hch⟩ := hch0
  have hlt : x < Int32.ofNat t.length := by
    obtain ⟨k, hk, rfl⟩ := nI_of h0
    rw [nI_clamp hk] at h1
    exact nI_lt h1 (by omega)
  have hval : t.getD x.toNatClampNeg 0 ∈ t := getD_mem h1 0
  obtain ⟨c1, c2⟩ := pch_ok _ (hch _ hval)
  have hown := findClass_of_methodNamed B.named
  have hl := pls_entry (fun x => x) [.ref av, .int x] (nL := 2) (Nat.le_of_ble_eq_true rfl)
  have hread : (fun j => Value.int ((t.map (fun c => Int32.ofNat c)).getD j 0)) x.toNatClampNeg = .int (Int32.ofNat (t.getD x.toNatClampNeg 0)) := by
    show Value.int _ = _
    congr 1
    rw [getD_map (fun c => Int32.ofNat c) t h1 0 0]
  rw [lg_entry_eq]
  refine lv_iload_n hx hb (by decide +kernel : decode cJ1_charAt_3b067 0 = .ok (.iload_n 1, 1)) (i := 1) rfl (hl.2.2.2 1 (.int x) rfl) ?_
  refine lv_aload_n hx hb (by decide +kernel : decode cJ1_charAt_3b067 1 = .ok (.aload_n 0, 1)) (i := 0) rfl (hl.2.2.2 0 (.ref av) rfl) ?_
  refine va_tlen hx hb hA va_S.rf rfl (by decide +kernel : decode cJ1_charAt_3b067 2 = .ok (.arraylength, 1)) ?_
  refine W.callX (W.runS (Ts := TG) (As := [.int x, .int (Int32.ofNat t.length)]) (n := 2) (nL := 2) (rest := []) ⟨hx, hb, hml, hown, hT⟩ (pj_ck hF h0 hlt) ⟨pj_cb hT okK_ck_c okK_iS okK_l9 ⟨by decide, by decide, by decide +kernel⟩ ⟨by decide, by decide⟩, hT _ okK_ck_s⟩ ⟨pcJ_blind, fun U hU hWU => ⟨rfl, State.WarmedH.trans hW hWU, by rw [hU]; exact hS⟩⟩ rfl rfl hl.1 rfl (room0 rfl) (by decide +kernel : decode cJ1_charAt_3b067 3 = .ok (.invokestatic 9, 3)) ⟨Nat.zero_le _, Nat.zero_le _⟩) (fun _ h => h.elim) ?_
  rintro v st t hst ⟨hv, ht⟩
  cases hv
  rw [ht, hst]
  refine lv_aload_n hx hb (by decide +kernel : decode cJ1_charAt_3b067 6 = .ok (.aload_n 0, 1)) (i := 0) rfl (hl.2.2.2 0 (.ref av) rfl) ?_
  refine lv_iload_n hx hb (by decide +kernel : decode cJ1_charAt_3b067 7 = .ok (.iload_n 1, 1)) (i := 1) rfl (hl.2.2.2 1 (.int x) rfl) ?_
  refine va_tb hx hb hA va_S.rf (fun q => q.elim h0 (fun q => absurd h1 (Nat.not_lt.mpr q))) hread (by decide +kernel : decode cJ1_charAt_3b067 8 = .ok (.baload, 1)) ?_
  refine lv_sipush hx hb (by decide +kernel : decode cJ1_charAt_3b067 9 = .ok (.sipush 255, 3)) (v := 255) (by decide) ?_
  refine lv_iand hx hb (by decide +kernel : decode cJ1_charAt_3b067 12 = .ok (.iand, 1)) ?_
  refine lv_i2c hx hb (by decide +kernel : decode cJ1_charAt_3b067 13 = .ok (.i2c, 1)) c1 ?_
  exact W.zret hx hb B.returns c2 (fun t ht _ => ⟨rfl, ht⟩) (fun q h => by cases h) (by decide +kernel : decode cJ1_charAt_3b067 14 = .ok (.ireturn, 1)) B.notSynchronized
theorem pj_chA (hF : pFx l D cy sa sv b Ls z xs tx s0 a0) {t : List Nat} {ad av : Nat} (hE0 : pSt t ad av (pA z s0.heap.size) s0 s0.heap) (hch0 : pch t) {x : Int32} (h0 : ¬ x < 0) (h1 : x.toNatClampNeg < t.length) : Met l yJ0_charAt_5068e [Cond.code yJ0_charAt_5068e cJ0_charAt_5068e 2 (some .char)] (pJf 3 64) (pcJ z s0 [.ref ad, .int x]) (QcRead (Int32.ofNat (t.getD x.toNatClampNeg 0))) 0 0 (fun _ => False) := by
  refine Met.ofW (by decide) rfl fun p e s m args below meth c s₁ B hml hP => ?_
  obtain ⟨rfl, hW, hS⟩ := hP
  have hx := B.exec
  have hb := B.bytes
  have hT := pj_at hF.1.1 hW #[Value.ref ad, .int x]
  have hV := (hE0.at).2.2.1.moved hW.alike |>.kept hS.2.1
  have hSS := (pSt.moved hW.alike hE0).kept hS.2.1
  have hch := hch0.2
  have hval : t.getD x.toNatClampNeg 0 ∈ t := getD_mem h1 0
  obtain ⟨-, c2⟩ := pch_ok _ (hch _ hval)
  have hown := findClass_of_methodNamed B.named
  have hl := pls_entry (fun x => x) [.ref ad, .int x] (nL := 2) (Nat.le_of_ble_eq_true rfl)
  rw [lg_entry_eq]
  refine lv_aload_n hx hb (by decide +kernel : decode cJ0_charAt_5068e 0 = .ok (.aload_n 0, 1)) (i := 0) rfl (hl.2.2.2 0 (.ref ad) rfl) ?_
  refine W.callR (W.runV (C := "java/lang/String") (Ts := TG) (As := []) (n := 0) (nL := 2) (rest := []) ⟨hx, hb, hml, hown, hT⟩ (pj_lat hF hE0 hch0) ⟨pj_cb hT okK_lat_c okK_iS okK_l492 ⟨by decide, by decide, by decide +kernel⟩ ⟨by decide, by decide⟩, hT _ okK_lat_i, hT _ okK_lat_v⟩ ⟨pcJ_blind, vk_recv hSS Nat.zero_lt_one va_S.rf, fun U hU hWU => ⟨rfl, State.WarmedH.trans hW hWU, by rw [hU]; exact hS⟩⟩ rfl rfl hl.1 rfl (room0 rfl) (by decide +kernel : decode cJ0_charAt_5068e 1 = .ok (.invokevirtual 492, 3)) ⟨Nat.zero_le _, Nat.zero_le _⟩) ?_
  refine lv_if_eq hx hb (by decide +kernel : decode cJ0_charAt_5068e 4 = .ok (.ifCond .eq 12, 3)) (tgt := 16) rfl (fun q => absurd q (by decide)) fun _ => ?_
  refine lv_aload_n hx hb (by decide +kernel : decode cJ0_charAt_5068e 7 = .ok (.aload_n 0, 1)) (i := 0) rfl (hl.2.2.2 0 (.ref ad) rfl) ?_
  refine vk_getf hx hb hV va_S.rf hown (hT _ okK_f9) (fun _ h => h) (by decide +kernel : decode cJ0_charAt_5068e 8 = .ok (.getfield 9, 3)) ?_
  refine lv_iload_n hx hb (by decide +kernel : decode cJ0_charAt_5068e 11 = .ok (.iload_n 1, 1)) (i := 1) rfl (hl.2.2.2 1 (.int x) rfl) ?_
  refine W.callR (W.runS (Ts := TG) (As := [.ref av, .int x]) (n := 2) (nL := 2) (rest := []) ⟨hx, hb, hml, hown, hT⟩ (pj_chL hF hE0 hch0 h0 h1) ⟨pj_cb hT okK_chL_c okK_iL okK_l495 ⟨by decide, by decide, by decide +kernel⟩ ⟨by decide, by decide⟩, hT _ okK_chL_s⟩ ⟨pcJ_blind, fun U hU hWU => ⟨rfl, State.WarmedH.trans hW hWU, by rw [hU]; exact hS⟩⟩ rfl rfl hl.1 rfl (room0 rfl) (by decide +kernel : decode cJ0_charAt_5068e 12 = .ok (.invokestatic 495, 3)) ⟨Nat.zero_le _, Nat.zero_le _⟩) ?_
  exact W.zret hx hb B.returns c2 (fun t ht _ => ⟨rfl, ht⟩) (fun q h => by cases h) (by decide +kernel : decode cJ0_charAt_5068e 15 = .ok (.ireturn, 1)) B.notSynchronized
end PJ
