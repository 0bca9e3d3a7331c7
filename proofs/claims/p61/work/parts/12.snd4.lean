/-! SOUNDNESS, 4: what a method stands on; loads -/
/-- the text of the law, as a cell of the pure world -/
def pTf (tx : List Nat) : List Value := tx.map (fun c => .int (Int32.ofNat c))
/-- a heap that holds a pure world -/
def pRi (D : va_G) (ad : Nat → Nat) (cy : Nat → ClassId) (Ls : Nat) (xs : Nat → Int32) (tx : List Nat) (w : PW) (H : Heap) : Prop :=
  va_P D vwCl (mW ad cy w) H ∧ w.1 ≤ pNA ∧ (∀ a, w.1 ≤ a → a ≠ pSC → a ≠ pTX → w.2.2 a = .inr (99, [])) ∧ (w.2.2 pSC = .inl (7, Ls, .inl xs) ∧ w.2.2 pTX = .inr (98, pTf tx)) ∧ ∀ (a t : Nat) (x : vp_A), w.2.2 a = .inl (t, x) → t < 7 ∨ a = pSC
/-- a string and its letters -/
def pSt (t : List Nat) (ad av : Nat) (A : Nat → Prop) (U : State) (H : Heap) : Prop := vk_S 1 [t.length] [t.map (fun c => Int32.ofNat c)] (fun _ => ad) (fun _ => av) A U H
theorem pSt.at {t : List Nat} {ad av : Nat} {A : Nat → Prop} {U : State} {H : Heap} (h : pSt t ad av A U H) : va_O "java/lang/String" ad A U H ∧ va_OF "java/lang/String" "coder" "B" (.int 0) ad A U H ∧ va_OF "java/lang/String" "value" "[B" (.ref av) ad A U H ∧ va_T .byte av t.length (fun j => .int ((t.map (fun c => Int32.ofNat c)).getD j 0)) A U H := h.1 0 Nat.zero_lt_one
theorem pSt.moved {t : List Nat} {ad av : Nat} {A : Nat → Prop} {u U : State} {H : Heap} (hvm : u.vm.Alike U.vm) (h : pSt t ad av A u H) : pSt t ad av A U H := vk_S.moved hvm h
theorem pSt.kept {t : List Nat} {ad av : Nat} {A : Nat → Prop} {U : State} {H H1 : Heap} (h : pSt t ad av A U H) (hq : ∀ a : Nat, a < H.size → ¬ A a → H1[a]? = H[a]?) : pSt t ad av A U H1 := vk_S.kept h hq
def pch (t : List Nat) : Prop := t.length < 1000 ∧ ∀ c ∈ t, c < 128
/-- what is fixed for a whole run of the law -/
def pFx (l : Launch) (D : va_G) (cy : Nat → ClassId) (sa sv : Nat → Nat) (b Ls z : Nat) (xs : Nat → Int32) (tx : List Nat) (s0 : State) (a0 : Array Value) : Prop :=
  pFix l D cy sa b Ls z xs s0 a0 ∧ (∀ i, i < 38 → pSt (sTx.getD i []) (sa i) (sv i) (pA z s0.heap.size) s0 s0.heap) ∧ pSt tx (sa 500000) (sv 500000) (pA z s0.heap.size) s0 s0.heap ∧ pch tx ∧
  va_Z "java/lang/String" "COMPACT_STRINGS" "Z" (.int 1) (pA z s0.heap.size) s0 s0.heap ∧ va_Zq "jdk/internal/util/Preconditions" "SIOOBE_FORMATTER" "Ljava/util/function/BiFunction;" (pA z s0.heap.size) s0 s0.heap
/-- what a method's body stands on -/
def pCx (p : Program) (l : Launch) (D : va_G) (cy : Nat → ClassId) (sa sv : Nat → Nat) (b Ls z : Nat) (xs : Nat → Int32) (tx : List Nat) (s0 : State) (a0 : Array Value) (M : Nat) (R : Room) (s : State) (m : MethodId) (c : Code) : Prop :=
  p.tables.exec = Jvm.exec ∧ c.code = mB M ∧ c.maxLocals = mN M ∧ s.vm.findClass (cN (mC M)) = some m.cls ∧ M < pNM ∧ pFx l D cy sa sv b Ls z xs tx s0 a0 ∧ s0.WarmedH s.vm ∧ va_S (pA z s0.heap.size) s0.heap s.heap [] ∧ mF M ≤ R.frames ∧ mLo M ≤ R.locals
theorem pad_sc {z : Nat} {sa : Nat → Nat} {b : Nat} : pad z sa b pSC = b := by
  unfold pad
  rw [if_neg (by decide), if_neg (by decide)]
theorem pad_sb {z : Nat} {sa : Nat → Nat} {b i : Nat} (h : i < 1000000) : pad z sa b (pSB + i) = sa i := by
  unfold pad
  rw [if_neg (by show ¬ 1000000 + i < 1000000; omega), if_pos (by show 1000000 + i < 2000000; omega), Nat.add_sub_cancel_left]
section PCX
variable {p : Program} {l : Launch} {D : va_G} {cy : Nat → ClassId} {sa sv : Nat → Nat} {b Ls z : Nat} {xs : Nat → Int32} {tx : List Nat} {s0 : State} {a0 : Array Value} {M : Nat} {R : Room} {s : State} {m : MethodId} {c : Code}
theorem pw_tg (hC : pCx p l D cy sa sv b Ls z xs tx s0 a0 M R s m c) {w : Cond} (h : w ∈ TG) (a : Array Value) : w.before a s = true :=
  pay_in (big := TG) (ws := TG) (args := a0) (fun w h => hC.2.2.2.2.2.1.1.1 w (List.mem_filter.mp h).1) TG_in w h a s hC.2.2.2.2.2.2.1
theorem pw_K (hC : pCx p l D cy sa sv b Ls z xs tx s0 a0 M R s m c) : va_K D vwCl (ptys cy) s := va_K.moved hC.2.2.2.2.2.2.1.alike hC.2.2.2.2.2.1.1.2.1
theorem pw_X (hC : pCx p l D cy sa sv b Ls z xs tx s0 a0 M R s m c) : va_X b Ls xs s s.heap ∧ b < s.heap.size ∧ ¬ pA z s0.heap.size b := by
  have hF := hC.2.2.2.2.2.1.1
  have hS := hC.2.2.2.2.2.2.2.1
  have hb : ¬ pA z s0.heap.size b := hF.2.2.2.2.1.1
  exact ⟨va_X.moved hC.2.2.2.2.2.2.1.alike (va_X.kept hF.2.2.1 (hS.2.1 b hF.2.2.2.1 hb)), Nat.lt_of_lt_of_le hF.2.2.2.1 hS.1, hb⟩
theorem pri_lt {ad : Nat → Nat} {w : PW} {H : Heap} (h : pRi D ad cy Ls xs tx w H) {a : Nat} {e : va_E} (he : w.2.2 a = e) (hne : e ≠ .inr (99, [])) (hsc : a ≠ pSC) (htx : a ≠ pTX) : a < w.1 := by
  refine Nat.not_le.mp fun hle => hne ?_
  rw [← he]
  exact h.2.2.1 a hle hsc htx
theorem pri_at {ad : Nat → Nat} {w : PW} {H : Heap} (h : pRi D ad cy Ls xs tx w H) {a : Nat} {e : va_E} (he : w.2.2 a = e) (hne : e ≠ .inr (99, [])) (hsc : a ≠ pSC) (htx : a ≠ pTX) : (mW ad cy w)[a]? = some (ad a, mE ad cy e) := by
  rw [mW_at (pri_lt h he hne hsc htx), he]
theorem pri_arr {ad : Nat → Nat} {w : PW} {H : Heap} (h : pRi D ad cy Ls xs tx w H) {a t : Nat} {x : vp_A} (he : w.2.2 a = .inl (t, x)) (ht : t < 7) : (mW ad cy w)[a]? = some (ad a, mE ad cy (.inl (t, x))) := by
  refine pri_at h he (fun q => by cases q) (fun q => ?_) (fun q => ?_)
  · rw [q, h.2.2.2.1.1] at he
    cases he
    exact absurd ht (by decide)
  · rw [q, h.2.2.2.1.2] at he
    cases he
theorem pri_obj {ad : Nat → Nat} {w : PW} {H : Heap} (h : pRi D ad cy Ls xs tx w H) {a ci : Nat} {fs : List Value} (he : w.2.2 a = .inr (ci, fs)) (hc : ci < 8) : (mW ad cy w)[a]? = some (ad a, mE ad cy (.inr (ci, fs))) := by
  refine pri_at h he (fun q => by cases q; exact absurd hc (by decide)) (fun q => ?_) (fun q => ?_)
  · rw [q, h.2.2.2.1.1] at he
    cases he
  · rw [q, h.2.2.2.1.2] at he
    cases he
    exact absurd hc (by decide)
end PCX
theorem pai_eq {w : PW} {a t n : Nat} {f : Nat → Int32} (h : pai w a t = some (n, f)) : w.2.2 a = .inl (t, n, .inl f) := by
  unfold pai at h
  split at h
  · rename_i c n' f' he
    split at h
    · rename_i hc
      subst hc
      cases h
      exact he
    · cases h
  · cases h
theorem paL_eq {w : PW} {a n : Nat} {f : Nat → Int64} (h : paL w a = some (n, f)) : w.2.2 a = .inl (1, n, .inr (.inl f)) := by
  unfold paL at h
  split at h
  · rename_i c n' f' he
    split at h
    · rename_i hc
      subst hc
      cases h
      exact he
    · cases h
  · cases h
theorem paQ_eq {w : PW} {a n : Nat} {f : Nat → Option Nat} (h : paQ w a = some (n, f)) : w.2.2 a = .inl (6, n, .inr (.inr (.inr (.inr f)))) := by
  unfold paQ at h
  split at h
  · rename_i c n' f' he
    split at h
    · rename_i hc
      subst hc
      cases h
      exact he
    · cases h
  · cases h
theorem pal_eq {w : PW} {a n : Nat} (h : pal w a = some n) : ∃ (t : Nat) (x : vp_A), w.2.2 a = .inl (t, x) ∧ x.1 = n := by
  unfold pal at h
  split at h
  · rename_i c n' y he
    cases h
    exact ⟨c, (n, y), he, rfl⟩
  · cases h
theorem pgf_eq {w : PW} {a ci k : Nat} {v : Value} (h : pgf w a ci k = some v) : ∃ fs, w.2.2 a = .inr (ci, fs) ∧ fs[k]? = some v := by
  unfold pgf at h
  split at h
  · rename_i c fs he
    split at h
    · rename_i hc
      subst hc
      exact ⟨fs, he, h⟩
    · cases h
  · cases h
theorem mE_fst (ad : Nat → Nat) (cy : Nat → ClassId) (t : Nat) (x : vp_A) : ∃ y : vp_A, mE ad cy (.inl (t, x)) = .inl (cy t, y) ∧ y.1 = x.1 := by
  obtain ⟨n, f | f | f | f | f⟩ := x
  · exact ⟨_, rfl, rfl⟩
  · exact ⟨_, rfl, rfl⟩
  · exact ⟨_, rfl, rfl⟩
  · exact ⟨_, rfl, rfl⟩
  · exact ⟨_, rfl, rfl⟩
theorem ptys_at (cy : Nat → ClassId) {t : Nat} (h : t < 7) : (ptys cy)[t]? = some (cy t, tyA.getD t .int) := by
  match t, h with
  | 0, _ => rfl
  | 1, _ => rfl
  | 2, _ => rfl
  | 3, _ => rfl
  | 4, _ => rfl
  | 5, _ => rfl
  | 6, _ => rfl
theorem mV_rf (ad : Nat → Nat) (o : Option Nat) : va_rf (o.map ad) = mV ad (va_rf o) := by cases o <;> rfl
section PLD
variable {p : Program} {l : Launch} {e : Env} {R : Room} {s : State} {m : MethodId} {args : Array Value} {below : List Frame} {meth : Method} {c : Code} {H : Heap} {locs : List Loc} {cells slots : Nat} {Q : State → Prop}
variable {pc ln : Nat} {i : Instr} {ls : Array Slot} {S S' : List Value} {w w' : PW}
variable {D : va_G} {cy : Nat → ClassId} {sa sv : Nat → Nat} {b Ls z : Nat} {xs : Nat → Int32} {tx : List Nat} {s0 : State} {a0 : Array Value} {M : Nat}
theorem pad_str {z v : Nat} {cl : Nat} {idx : Nat} (h : plk idx (kC cl) = some (.ref v)) (hcl : cl < 14) : ∃ i tx, i < 38 ∧ sOw[i]? = some (cN cl, idx, tx) ∧ pad z sa b v = sa i := by
  obtain ⟨i, tx, hv, hi, ho⟩ := okC_all cl hcl _ (plk_mem h)
  subst hv
  exact ⟨i, tx, hi, ho, pad_sb (Nat.lt_trans hi (by decide))⟩
set_option maxHeartbeats 4000000 in
theorem pld_snd (hC : pCx p l D cy sa sv b Ls z xs tx s0 a0 M R s m c) (hR : pRi D (pad z sa b) cy Ls xs tx w H) (hS : va_S (pA z s0.heap.size) s.heap H locs) (hd : decode (mB M) pc = .ok (i, ln)) (hf : pld M i S w = some (ln, S', w'))
    (k : w' = w → W p l e R s m args below meth c H locs cells slots Q (F0 m (pc + ln) ls (S'.map (mV (pad z sa b))))) :
    W p l e R s m args below meth c H locs cells slots Q (F0 m pc ls (S.map (mV (pad z sa b)))) := by
  have hx := hC.1
  have hb := hC.2.1
  have hown := hC.2.2.2.1
  have hK := pw_K hC
  have hM := mC_lt M hC.2.2.2.2.1
  have hP := hR.1
  unfold pld at hf
  split at hf
  · split at hf
    · split at hf
      · rename_i hp
        split at hf
        · cases hf
        · rename_i hin; cases hf; exact va_iald hx hb hK hP _ 0 (pri_arr hR (pai_eq hp) (by decide)) (ptys_at cy (by decide)) hin hd (k rfl)
      · split at hf
        · rename_i n f hp
          split at hf
          · cases hf
          · rename_i hin; cases hf
            have h1 := pai_eq hp
            rcases hR.2.2.2.2 _ _ _ h1 with h2 | h2
            · exact absurd h2 (by decide)
            · subst h2
              rw [hR.2.2.2.1.1] at h1
              cases h1
              obtain ⟨x1, x2, x3⟩ := pw_X hC
              have e9 : mV (pad z sa b) (.ref pSC) = .ref b := congrArg Value.ref pad_sc
              show W p l e R s m args below meth c H locs cells slots Q (F0 m pc ls (.int _ :: mV (pad z sa b) (.ref pSC) :: List.map _ _))
              rw [e9]
              exact va_sld hx hb x1 x2 x3 hS hin hd (k rfl)
        · cases hf
    · cases hf
  · split at hf
    · split at hf
      · rename_i hp
        split at hf
        · cases hf
        · rename_i hin; cases hf; exact va_cald hx hb hK hP _ 2 (pri_arr hR (pai_eq hp) (by decide)) (ptys_at cy (by decide)) hin hd (k rfl)
      · cases hf
    · cases hf
  · split at hf
    · split at hf
      · rename_i hp
        split at hf
        · cases hf
        · rename_i hin; cases hf; exact va_zald hx hb hK hP _ 3 (pri_arr hR (pai_eq hp) (by decide)) (ptys_at cy (by decide)) hin hd (k rfl)
      · split at hf
        · rename_i hp
          split at hf
          · cases hf
          · rename_i hin; cases hf; exact va_bald hx hb hK hP _ 4 (pri_arr hR (pai_eq hp) (by decide)) (ptys_at cy (by decide)) hin hd (k rfl)
        · cases hf
    · cases hf
  · split at hf
    · split at hf
      · rename_i hp
        split at hf
        · cases hf
        · rename_i hin; cases hf; exact va_lald hx hb hK hP _ 1 (pri_arr hR (paL_eq hp) (by decide)) (ptys_at cy (by decide)) hin hd (k rfl)
      · cases hf
    · cases hf
  · split at hf
    · split at hf
      · rename_i n f hp
        split at hf
        · cases hf
        · rename_i hin; cases hf
          refine va_aldq hx hb hK hP _ 6 (pri_arr hR (paQ_eq hp) (by decide)) (ptys_at cy (by decide)) hin hd ?_
          show W p l e R s m args below meth c H locs cells slots Q (F0 m (pc + 1) ls (va_rf ((f _).map (pad z sa b)) :: _))
          rw [mV_rf]
          exact k rfl
      · cases hf
    · cases hf
  · split at hf
    · split at hf
      · rename_i n hp
        cases hf
        obtain ⟨t, x, h1, h2⟩ := pal_eq hp
        rcases hR.2.2.2.2 _ _ _ h1 with h3 | h3
        · obtain ⟨y, hy, hy1⟩ := mE_fst (pad z sa b) cy t x
          have g := pri_arr hR h1 h3
          rw [hy] at g
          exact va_alen hx hb hK hP _ t g (ptys_at cy h3) (by rw [hy1, h2]) hd (k rfl)
        · subst h3
          rw [hR.2.2.2.1.1] at h1
          cases h1
          obtain ⟨x1, x2, x3⟩ := pw_X hC
          subst h2
          have e9 : mV (pad z sa b) (.ref pSC) = .ref b := congrArg Value.ref pad_sc
          show W p l e R s m args below meth c H locs cells slots Q (F0 m pc ls (mV (pad z sa b) (.ref pSC) :: List.map _ _))
          rw [e9]
          exact va_slen hx hb x1 x2 x3 hS hd (k rfl)
      · cases hf
    · cases hf
  · split at hf
    · rename_i idx _ v hl
      cases hf
      exact lv_ldc hx hb hown (pw_tg hC (okC_all _ hM _ (plk_mem hl)) _) hd (k rfl)
    · rename_i idx _ v hl
      cases hf
      obtain ⟨i9, tx, h1, h2, h3⟩ := pad_str (sa := sa) (b := b) (z := z) hl hM
      have hF := hC.2.2.2.2.2.1.1
      refine va_ldcS hx hb hown (vk_R.warm hC.2.2.2.2.2.2.1 (hF.2.2.2.2.2 i9 _ h2)) hd ?_
      rw [← h3]
      exact k rfl
    · cases hf
  · split at hf
    · rename_i idx _ v hl
      cases hf
      exact lv_ldcw hx hb hown (pw_tg hC (okC_all _ hM _ (plk_mem hl)) _) hd (k rfl)
    · cases hf
  · split at hf
    · rename_i idx _ v hl
      cases hf
      exact lv_ldc2 hx hb hown (pw_tg hC (okC_all _ hM _ (plk_mem hl)) _) hd (k rfl)
    · cases hf
  · split at hf
    · split at hf
      · rename_i ci k9 hl
        split at hf
        · rename_i v hv
          cases hf
          obtain ⟨fs, h1, h2⟩ := pgf_eq hv
          obtain ⟨C, T, N, g1, g2, g3, g4, g5⟩ := okF_all _ hM _ (plk_mem hl)
          have hci : ci < 8 := (List.getElem?_eq_some_iff.mp g1).1
          obtain ⟨C', T', N', ty, u1, u2, u3, u4, u5, u6, u7, u8, u9, u10, u11⟩ := okU_all ci hci
          cases g1.symm.trans u1
          exact va_get (own := cN (mC M)) (ref := C) (args := args) hx hb (Ts := u_ws C T N) (fun w hw => pw_tg hC (u_wsTG u2 w hw) args) (fun w hw => hw) hown hK hP _ (pri_obj hR h1 hci) g1 k9 g2 (pw_tg hC g3 args) (fun x hx => by rw [← g4]; exact hx) (by rw [List.getElem?_map, h2]; rfl) hd (k rfl)
        · cases hf
      · cases hf
    · cases hf
  · cases hf
end PLD
