/-! SOUNDNESS, 8: what a run says; calls -/
theorem mH_lt : ∀ M, M < pNM → mH M = [] := by decide +kernel
theorem mH_nil (M : Nat) : mH M = [] := by
  by_cases h : M < pNM
  · exact mH_lt M h
  · unfold mH
    rw [List.getD_eq_getElem?_getD, List.getElem?_eq_none (Nat.le_trans (show mHs.length ≤ pNM by decide +kernel) (Nat.not_lt.mp h))]
    rfl
theorem phd_nil (M pc E : Nat) : phd M pc E = none := by
  unfold phd
  rw [mH_nil]
  rfl
theorem mWd_c (M : Nat) : mWd M = .code (mY M) (mB M) (mN M) (mR M) := by unfold mWd; rw [mH_nil]
/-- what a method's run says of its end -/
def pQc (D : va_G) (cy : Nat → ClassId) (sa : Nat → Nat) (b Ls z : Nat) (xs : Nat → Int32) (tx : List Nat) (s0 : State) (v : Option Value) (w' : PW) : Array Value → State → Outcome → State → Prop := fun _ st oc t =>
  oc = .returned (v.map (mV (pad z sa b))) ∧ va_F (pA z s0.heap.size) st t ∧ pRi D (pad z sa b) cy Ls xs tx w' t.heap
def pPre (D : va_G) (cy : Nat → ClassId) (sa : Nat → Nat) (b Ls z : Nat) (xs : Nat → Int32) (tx : List Nat) (s0 : State) (av : List Value) (w : PW) : Array Value → State → Prop := fun a U =>
  a = (av.map (mV (pad z sa b))).toArray ∧ s0.WarmedH U.vm ∧ va_S (pA z s0.heap.size) s0.heap U.heap [] ∧ pRi D (pad z sa b) cy Ls xs tx w U.heap ∧ (w.1 < pNA → U.heap.size ≤ z + w.1)
abbrev pRm (M : Nat) (w w' : PW) : Room := { frames := mF M, locals := mLo M, cells := w'.1 - w.1, slots := w'.2.1 - w.2.1 }
/-- a method's run, as the kit's contract -/
def pMet (l : Launch) (D : va_G) (cy : Nat → ClassId) (sa : Nat → Nat) (b Ls z : Nat) (xs : Nat → Int32) (tx : List Nat) (s0 : State) (M : Nat) (av : List Value) (w : PW) (v : Option Value) (w' : PW) : Prop :=
  Met l (mY M) [Cond.code (mY M) (mB M) (mN M) (mR M)] (pRm M w w') (pPre D cy sa b Ls z xs tx s0 av w) (pQc D cy sa b Ls z xs tx s0 v w') (w'.1 - w.1) (w'.2.1 - w.2.1) (pA z s0.heap.size)
/-- what the pure machine's calls say by themselves -/
def pMon (w : PW) (r : PR) : Prop := w.1 ≤ r.2.1 ∧ w.2.1 ≤ r.2.2.1
theorem pok_eq {M M' pc : Nat} (h : pok M M' pc = true) : mF M' + 1 ≤ mF M ∧ mN M' + 19 + mLo M' ≤ mLo M := by
  unfold pok at h
  simp only [Bool.and_eq_true] at h
  exact ⟨Nat.le_of_ble_eq_true h.1.1.2, Nat.le_of_ble_eq_true h.1.2⟩
theorem okn_d {M n : Nat} (h : okn M n) (hy : (mY M).cls ≠ "java/lang/invoke/MethodHandle" ∧ (mY M).cls ≠ "java/lang/invoke/VarHandle") : (mY M).cls ≠ "java/lang/invoke/MethodHandle" ∧ (mY M).cls ≠ "java/lang/invoke/VarHandle" ∧ (parseMethodDescriptor (mY M).desc).map (fun d => d.parameters.length) = some n := ⟨hy.1, hy.2, h⟩
theorem opt_map (f : Value → Value) (v : Option Value) : (v.map f).toList = v.toList.map f := by cases v <;> rfl
section PCALL
variable {p : Program} {l : Launch} {e : Env} {R : Room} {s : State} {m : MethodId} {args : Array Value} {below : List Frame} {meth : Method} {c : Code} {H : Heap} {locs : List Loc} {cells slots : Nat} {Q : State → Prop}
variable {pc pc' ln : Nat} {i : Instr} {ls : Array Slot} {L L' : PL} {S S' : List Value} {w w' : PW}
variable {D : va_G} {cy : Nat → ClassId} {sa sv : Nat → Nat} {b Ls z : Nat} {xs : Nat → Int32} {tx : List Nat} {s0 : State} {a0 : Array Value} {M : Nat}
theorem prun_use {v : Option Value} {a : Array Value} {mc ms : Nat} {rest st0 : List Value} (hr : va_Run p l e R s m args below meth c H locs cells slots mc ms (F0 m pc ls st0) rest (pQc D cy sa b Ls z xs tx s0 v w' a) (pA z s0.heap.size)) (hS : va_S (pA z s0.heap.size) s.heap H locs)
    (kk : ∀ (H1 : Heap) (locs1 : List Loc), pRi D (pad z sa b) cy Ls xs tx w' H1 → va_S (pA z s0.heap.size) s.heap H1 locs1 → W p l e R s m args below meth c H1 locs1 (cells + mc) (slots + ms) Q (F0 m (pc + 3) ls ((v.map (mV (pad z sa b))).toList ++ rest))) :
    W p l e R s m args below meth c H locs cells slots Q (F0 m pc ls st0) := by
  intro T hT X
  obtain ⟨v9, st₀, t, T', L, h0, X', hL, e1, e2, ⟨hv, hF, hRi⟩, st⟩ := hr T hT X
  cases hv
  have k3 : va_S (pA z s0.heap.size) s.heap T'.heap (locs ++ L) := ⟨Nat.le_trans hS.1 (by rw [e1, ← h0]; exact hF.1), fun q h1 h2 => by rw [e1, hF.2 q (by rw [h0]; exact Nat.lt_of_lt_of_le h1 hS.1) h2, h0]; exact hS.2.1 q h1 h2, fun q hq => (List.mem_append.mp hq).elim (hS.2.2 q) (hL q)⟩
  obtain ⟨t2, a1, b1⟩ := kk T'.heap (locs ++ L) (by rw [e1]; exact hRi) k3 T' rfl X'
  exact ⟨t2, st t2 a1, b1⟩
theorem ptake (f : Value → Value) (S : List Value) (n : Nat) : ((S.take n).reverse.map f).reverse = (S.take n).map f := by rw [List.map_reverse, List.reverse_reverse]
set_option maxHeartbeats 4000000 in
theorem pcall_run {M' : Nat} {av rest : List Value} {v : Option Value} (hC : pCx p l D cy sa sv b Ls z xs tx s0 a0 M R s m c) (hR : pRi D (pad z sa b) cy Ls xs tx w H) (hS : va_S (pA z s0.heap.size) s.heap H locs) (hls : ls.size = mN M)
    (hd : decode (mB M) pc = .ok (i, 3)) (hf : pcl M pc i S w = some (M', av, rest)) (hG : M' < pNM → pMet l D cy sa b Ls z xs tx s0 M' av w v w') (hsz : w.1 < pNA → H.size ≤ z + w.1) (hcs : cells + (w'.1 - w.1) ≤ R.cells) (hss : slots + (w'.2.1 - w.2.1) ≤ R.slots) :
    va_Run p l e R s m args below meth c H locs cells slots (w'.1 - w.1) (w'.2.1 - w.2.1) (F0 m pc ls (S.map (mV (pad z sa b)))) (rest.map (mV (pad z sa b))) (pQc D cy sa b Ls z xs tx s0 v w' (av.map (mV (pad z sa b))).toArray) (pA z s0.heap.size) := by
  have hx := hC.1
  have hb := hC.2.1
  have hml := hC.2.2.1
  have hown := hC.2.2.2.1
  have hF := hC.2.2.2.2.2.1
  have hWr := hC.2.2.2.2.2.2.1
  have hfr := hC.2.2.2.2.2.2.2.2.1
  have hlo := hC.2.2.2.2.2.2.2.2.2
  have hK := pw_K hC
  have hM := mC_lt M hC.2.2.2.2.1
  have hP := hR.1
  have hT : ∀ w ∈ TG, w.before args s = true := fun w h => pw_tg hC h args
  have hpre : ∀ (av : List Value) (U : State), U.heap = H → s.WarmedH U.vm → pPre D cy sa b Ls z xs tx s0 av w (av.map (mV (pad z sa b))).toArray U := fun av U hU hWU => ⟨rfl, State.WarmedH.trans hWr hWU, by rw [hU]; exact pas_nil (pas_trans (pcx_S hC) hS), by rw [hU]; exact hR, fun h => by rw [hU]; exact hsz h⟩
  have hbl : ∀ av : List Value, FrameBlind (pPre D cy sa b Ls z xs tx s0 av w) := fun _ _ _ _ _ h => h
  unfold pcl at hf
  split at hf
  · rename_i idx
    split at hf
    · rename_i M9 n9 hl
      split at hf
      · rename_i b9 rest9 hdrop
        split at hf
        · rename_i hcond
          obtain ⟨hok, hob, hn, hr4⟩ := hcond
          cases hf
          obtain ⟨⟨q1, q2, q3, T9, N9, q4⟩, q5, q6, q7⟩ := okM_all _ hM _ (plk_mem hl)
          obtain ⟨y1, y2, y3, y4, y5⟩ := okY_to_227 _ q7
          obtain ⟨p1, p2⟩ := pok_eq hok
          have hG' := hG q7
          unfold pMet at hG'
          rw [mWd_c] at y1
          obtain ⟨fs, hfs⟩ := isOb_eq (w := w) (v := b9) (ci := mI M') (by rw [hob]; decide)
          have hst : S.map (mV (pad z sa b)) = (((S.take n9).reverse).map (mV (pad z sa b))).reverse ++ .ref (pad z sa b b9) :: rest.map (mV (pad z sa b)) := by
            rw [ptake]
            conv => lhs; rw [← List.take_append_drop n9 S, hdrop, List.map_append]
            rfl
          exact va_runV (C := (mY M').cls) (Ts := TG) (As := ((S.take n9).reverse).map (mV (pad z sa b))) (n := n9) ⟨hx, hb, hml, hown, hT⟩ hG' ⟨pj_cb hT y1 y2 q1 (okn_d q6 y5) ⟨by show mF M' + 1 ≤ R.frames; omega, by show 8 + (mN M' + 11) + mLo M' ≤ R.locals; omega⟩, hT _ q2, hT _ q3⟩ ⟨hbl _, va_recv hK hP q4 (pri_obj hR hfs (List.getElem?_eq_some_iff.mp q4).1), hpre _⟩ rfl (by rw [List.length_map, List.length_reverse, List.length_take]; omega) hls hst (by show 2 * 0 + _ ≤ 8; have := pcat8 (pad z sa b) hr4; omega) hd ⟨hcs, hss⟩
        · cases hf
      · cases hf
    · cases hf
  · rename_i idx
    split at hf
    · rename_i M9 n9 hl
      split at hf
      · rename_i b9 rest9 hdrop
        split at hf
        · rename_i hcond
          obtain ⟨hok, hob, hn, hr4, hx0⟩ := hcond
          cases hf
          obtain ⟨⟨q1, q2, q3, q4⟩, q5, q6, q7⟩ := okM_all _ hM _ (plk_mem hl)
          obtain ⟨y1, y2, y3, y4, y5⟩ := okY_to_227 _ q7
          obtain ⟨p1, p2⟩ := pok_eq hok
          have hG' := hG q7
          unfold pMet at hG'
          rw [mWd_c] at y1
          dsimp only at q4
          rw [q4] at hG' y1
          have hst : S.map (mV (pad z sa b)) = (((S.take n9).reverse).map (mV (pad z sa b))).reverse ++ .ref (pad z sa b b9) :: rest.map (mV (pad z sa b)) := by
            rw [ptake]
            conv => lhs; rw [← List.take_append_drop n9 S, hdrop, List.map_append]
            rfl
          exact (va_runI (Ts := TG) (As := ((S.take n9).reverse).map (mV (pad z sa b))) (n := n9) ⟨hx, hb, hml, hown, hT⟩ hG' ⟨pj_cb hT y1 y2 q1 (okn_d q6 y5) ⟨by show mF M' + 1 ≤ R.frames; omega, by show 8 + (mN M' + 11) + mLo M' ≤ R.locals; omega⟩, q3, hT _ q2⟩ ⟨hbl _, hpre (.ref b9 :: (S.take n9).reverse)⟩ rfl (by rw [List.length_map, List.length_reverse, List.length_take]; omega) hls hst (by show 2 * 0 + _ ≤ 8; have := pcat8 (pad z sa b) hr4; omega) hd ⟨hcs, hss⟩)
        · cases hf
      · cases hf
    · rename_i M9 n9 hl
      split at hf
      · rename_i b9 rest9 hdrop
        split at hf
        · rename_i hcond
          obtain ⟨hok, hob, hn, hr4, hx0⟩ := hcond
          cases hf
          obtain ⟨⟨q1, q2, q3, q4⟩, q5, q6, q7⟩ := okM_all _ hM _ (plk_mem hl)
          obtain ⟨y1, y2, y3, y4, y5⟩ := okY_to_227 _ q7
          obtain ⟨p1, p2⟩ := pok_eq hok
          have hG' := hG q7
          unfold pMet at hG'
          rw [mWd_c] at y1
          dsimp only at q4
          rw [q4] at hG' y1
          have hst : S.map (mV (pad z sa b)) = (((S.take n9).reverse).map (mV (pad z sa b))).reverse ++ .ref (pad z sa b b9) :: rest.map (mV (pad z sa b)) := by
            rw [ptake]
            conv => lhs; rw [← List.take_append_drop n9 S, hdrop, List.map_append]
            rfl
          have hnw := va_Nw.warmM hWr (va_Nw.of (A := a0) rfl (hF.1.1 _ q1))
          exact (va_runIN (Ts := TG) (As := ((S.take n9).reverse).map (mV (pad z sa b))) (n := n9) ⟨hx, hb, hml, hown, hT⟩ hG' ⟨va_cnB n9 hT (fun w h => TG_in w (by rw [List.mem_singleton.mp h]; exact y1)) rfl rfl rfl hnw (hT _ y2) (okn_d q6 y5) ⟨by show mF M' + 1 ≤ R.frames; omega, by show 8 + (mN M' + 11) + mLo M' ≤ R.locals; omega⟩, q3, hT _ q2⟩ ⟨hbl _, hpre (.ref b9 :: (S.take n9).reverse)⟩ rfl (by rw [List.length_map, List.length_reverse, List.length_take]; omega) hls hst (by show 2 * 0 + _ ≤ 8; have := pcat8 (pad z sa b) hr4; omega) hd ⟨hcs, hss⟩)
        · cases hf
      · cases hf
    · cases hf
  · rename_i idx
    split at hf
    · rename_i M9 n9 hl
      split at hf
      · rename_i hcond
        obtain ⟨hok, hn, hr4⟩ := hcond
        cases hf
        obtain ⟨⟨q1, q2⟩, q5, q6, q7⟩ := okM_all _ hM _ (plk_mem hl)
        obtain ⟨y1, y2, y3, y4, y5⟩ := okY_to_227 _ q7
        obtain ⟨p1, p2⟩ := pok_eq hok
        have hG' := hG q7
        unfold pMet at hG'
        rw [mWd_c] at y1
        have hst : S.map (mV (pad z sa b)) = (((S.take n9).reverse).map (mV (pad z sa b))).reverse ++ (S.drop n9).map (mV (pad z sa b)) := by
          rw [ptake, ← List.map_append, List.take_append_drop]
        exact va_runS (Ts := TG) (As := ((S.take n9).reverse).map (mV (pad z sa b))) (n := n9) ⟨hx, hb, hml, hown, hT⟩ hG' ⟨pj_cb hT y1 y2 q1 (okn_d q6 y5) ⟨by show mF M' + 1 ≤ R.frames; omega, by show 8 + (mN M' + 11) + mLo M' ≤ R.locals; omega⟩, hT _ q2⟩ ⟨hbl _, hpre _⟩ rfl (by rw [List.length_map, List.length_reverse, List.length_take]; omega) hls hst (by show 2 * 0 + _ ≤ 8; have := pcat8 (pad z sa b) hr4; omega) hd ⟨hcs, hss⟩
      · cases hf
    · rename_i M9 n9 hl
      split at hf
      · cases hf
        obtain ⟨-, q5, -⟩ := okM_all _ hM _ (plk_mem hl)
        dsimp only at q5
        rw [mH_nil] at q5
        exact Bool.noConfusion q5
      · cases hf
    · cases hf
  · cases hf
end PCALL
