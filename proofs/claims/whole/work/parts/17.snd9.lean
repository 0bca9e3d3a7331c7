/-! SOUNDNESS, 9: calls -/
def pPre (D : va_G) (cy : Nat → ClassId) (sa : Nat → Nat) (b Ls : Nat) (xs : Nat → Int32) (s0 : State) (av : List Value) (w : PW) : Array Value → State → Prop := fun a U =>
  a = (av.map (mV (pad s0.heap.size sa b))).toArray ∧ s0.WarmedH U.vm ∧ va_S (pA s0.heap.size) s0.heap U.heap [] ∧ pRi D (pad s0.heap.size sa b) cy Ls xs w U.heap ∧ (w.1 < pNA → U.heap.size ≤ s0.heap.size + w.1)
def xC (M : Nat) (w w' : PW) : Nat := (w'.1 - w.1) + (if w'.1 < pNA then 0 else mX M)
def xS (M : Nat) (w w' : PW) : Nat := (w'.2.1 - w.2.1) + (if w'.1 < pNA then 0 else 6 * mX M)
abbrev pRm (M : Nat) (w w' : PW) : Room := { frames := mF M, locals := mLo M, cells := xC M w w', slots := xS M w w' }
/-- a method's run, as the kit's contract -/
def pMet (l : Launch) (D : va_G) (cy : Nat → ClassId) (sa : Nat → Nat) (b Ls : Nat) (xs : Nat → Int32) (s0 : State) (M : Nat) (av : List Value) (w : PW) (r : PR) : Prop :=
  vx_Met l (mY M) [mWd M] (pRm M w r.2) (pPre D cy sa b Ls xs s0 av w) (pQc D cy sa b Ls xs s0 r.1 r.2) (pXc D cy sa b Ls xs s0 r.1 r.2) (xC M w r.2) (xS M w r.2) (pA s0.heap.size)
/-- what the pure machine's calls say by themselves -/
def pMon (M : Nat) (w : PW) (r : PR) : Prop := w.1 ≤ r.2.1 ∧ w.2.1 ≤ r.2.2.1 ∧ ∀ E, r.1 = .inr E → (E = 1 ∨ E = 2) ∧ 1 ≤ mX M
theorem mWd_c {M : Nat} (h : mH M = []) : mWd M = .code (mY M) (mB M) (mN M) (mR M) := by unfold mWd; rw [h]
theorem mWd_h {M : Nat} (h : (mH M).isEmpty = false) : mWd M = .codeWith (mY M) (mB M) (mN M) (mR M) ((mH M).map (fun h => (h.1, h.2.1, h.2.2.1, h.2.2.2.1))) := by
  unfold mWd
  cases hm : mH M with
  | nil => rw [hm] at h; cases h
  | cons a t => rfl
theorem pok_eq {M M' pc : Nat} (h : pok M M' pc = true) : mF M' + 1 ≤ mF M ∧ mN M' + 19 + mLo M' ≤ mLo M ∧ phi M (pc + 3) + mX M' ≤ phi M pc := by
  unfold pok at h
  simp only [Bool.and_eq_true] at h
  exact ⟨Nat.le_of_ble_eq_true h.1.1.2, Nat.le_of_ble_eq_true h.1.2, Nat.le_of_ble_eq_true h.2⟩
theorem okn_d {M n : Nat} (h : okn M n) (hy : (mY M).cls ≠ "java/lang/invoke/MethodHandle" ∧ (mY M).cls ≠ "java/lang/invoke/VarHandle") : (mY M).cls ≠ "java/lang/invoke/MethodHandle" ∧ (mY M).cls ≠ "java/lang/invoke/VarHandle" ∧ (parseMethodDescriptor (mY M).desc).map (fun d => d.parameters.length) = some n := ⟨hy.1, hy.2, h⟩
theorem met_of {l : Launch} {y : MethodName} {ws : List Cond} {rm : Room} {Pc : Array Value → State → Prop} {Qc : Array Value → State → Outcome → State → Prop} {XC : String → State → State → Prop} {mc ms : Nat} {free : Addr → Prop} (h : vx_Met l y ws rm Pc Qc XC mc ms free) (hX : ∀ E st t, ¬ XC E st t) : Met l y ws rm Pc Qc mc ms free :=
  MetFree.mono h (fun _ _ h => h) (fun _ _ _ _ _ h => h) (fun a s o s' _ hq => by
    rcases hq with hq | ⟨q, _, E, ce, L, hx, _⟩
    · exact hq
    · exact absurd hx (hX _ _ _))
theorem opt_map (f : Value → Value) (v : Option Value) : (v.map f).toList = v.toList.map f := by cases v <;> rfl
section PCALL
variable {p : Program} {l : Launch} {e : Env} {R : Room} {s : State} {m : MethodId} {args : Array Value} {below : List Frame} {meth : Method} {c : Code} {H : Heap} {locs : List Loc} {cells slots : Nat} {Q : State → Prop}
variable {pc ln : Nat} {i : Instr} {ls : Array Slot} {L L' : PL} {S S' : List Value} {w w' : PW}
variable {D : va_G} {cy : Nat → ClassId} {sa sv : Nat → Nat} {b Ls : Nat} {xs : Nat → Int32} {s0 : State} {a0 : Array Value} {M : Nat}
theorem prun_use {o : PO} {a : Array Value} {mc ms : Nat} {rest st0 : List Value} (hr : vx_Run p l e R s m args below meth c H locs cells slots mc ms (F0 m pc ls st0) rest (pQc D cy sa b Ls xs s0 o w' a) (pXc D cy sa b Ls xs s0 o w') (pA s0.heap.size)) (hS : va_S (pA s0.heap.size) s.heap H locs)
    (kx : ∀ E, o = .inr E → ∀ (ce : Cell) (q : Addr) (H1 : Heap) (locs1 : List Loc), pRi D (pad s0.heap.size sa b) cy Ls xs w' H1 → va_S (pA s0.heap.size) s.heap H1 locs1 → H1[q]? = some ce → ce.vm = .none → s.vm.findClass (eN E) = some ce.cls → vx_W p l e R s m args below meth c H1 locs1 (cells + mc) (slots + ms) Q (F0 m pc ls rest) q)
    (kk : ∀ v, o = .inl v → ∀ (H1 : Heap) (locs1 : List Loc), pRi D (pad s0.heap.size sa b) cy Ls xs w' H1 → va_S (pA s0.heap.size) s.heap H1 locs1 → W p l e R s m args below meth c H1 locs1 (cells + mc) (slots + ms) Q (F0 m (pc + 3) ls ((v.map (mV (pad s0.heap.size sa b))).toList ++ rest))) :
    W p l e R s m args below meth c H locs cells slots Q (F0 m pc ls st0) := by
  intro T hT X
  rcases hr T hT X with ⟨v, st₀, t, T', L, h0, X', hL, e1, e2, ⟨v9, ho, hv, hF, hRi⟩, st⟩ | ⟨q, st₀, t, T', L, E, ce, h0, X', hL, e1, e2, ⟨E9, ho, hE, hF, hRi⟩, hce, hcv, hcl, st⟩
  · cases hv
    obtain ⟨k1, k2, k3⟩ := vx_keep h0 e1 hS (fun q _ h => h) (fun q h => h) hL hF
    obtain ⟨t2, a1, b1⟩ := kk v9 ho T'.heap (locs ++ L) (by rw [e1]; exact hRi) k3 T' rfl X'
    exact ⟨t2, st t2 a1, b1⟩
  · subst hE
    obtain ⟨k1, k2, k3⟩ := vx_keep h0 e1 hS (fun q _ h => h) (fun q h => h) hL hF
    obtain ⟨t2, a1, b1⟩ := kx E9 ho ce q T'.heap (locs ++ L) (by rw [e1]; exact hRi) k3 (by rw [e1]; exact hce) hcv hcl T' rfl X'
    exact ⟨t2, st.trans a1, b1⟩
theorem run_of {mc ms : Nat} {g : JFrame} {rest : List Value} {Qa : State → Outcome → State → Prop} {XC : String → State → State → Prop} {free : Addr → Prop} (h : va_Run p l e R s m args below meth c H locs cells slots mc ms g rest Qa free) : vx_Run p l e R s m args below meth c H locs cells slots mc ms g rest Qa XC free := fun T hT X => Or.inl (h T hT X)
theorem ptake (f : Value → Value) (S : List Value) (n : Nat) : ((S.take n).reverse.map f).reverse = (S.take n).map f := by rw [List.map_reverse, List.reverse_reverse]
set_option maxHeartbeats 4000000 in
theorem pcall_run {M' : Nat} {av rest : List Value} {r : PR} (hC : pCx p l D cy sa sv b Ls xs s0 a0 M R s m c) (hR : pRi D (pad s0.heap.size sa b) cy Ls xs w H) (hS : va_S (pA s0.heap.size) s.heap H locs) (hls : ls.size = mN M)
    (hd : decode (mB M) pc = .ok (i, 3)) (hf : pcl M pc i S w = some (M', av, rest)) (hG : M' < 355 → pMet l D cy sa b Ls xs s0 M' av w r) (hE : ∀ E, r.1 = .inr E → 1 ≤ mX M') (hsz : w.1 < pNA → H.size ≤ s0.heap.size + w.1) (hcs : cells + xC M' w r.2 ≤ R.cells) (hss : slots + xS M' w r.2 ≤ R.slots) :
    vx_Run p l e R s m args below meth c H locs cells slots (xC M' w r.2) (xS M' w r.2) (F0 m pc ls (S.map (mV (pad s0.heap.size sa b)))) (rest.map (mV (pad s0.heap.size sa b))) (pQc D cy sa b Ls xs s0 r.1 r.2 (av.map (mV (pad s0.heap.size sa b))).toArray) (pXc D cy sa b Ls xs s0 r.1 r.2) (pA s0.heap.size) := by
  have hx := hC.1
  have hb := hC.2.1
  have hml := hC.2.2.1
  have hown := hC.2.2.2.1
  have hF := hC.2.2.2.2.2.1
  have hWr := hC.2.2.2.2.2.2.1
  have hfr := hC.2.2.2.2.2.2.2.2.1
  have hlo := hC.2.2.2.2.2.2.2.2.2
  have hK := pw_K hC
  have hM := mC_lt M hC.2.2.2.2.1
  have hP := hR.1
  have hT : ∀ w ∈ TG, w.before args s = true := fun w h => pw_tg hC h args
  have hpre : ∀ (av : List Value) (U : State), U.heap = H → s.WarmedH U.vm → pPre D cy sa b Ls xs s0 av w (av.map (mV (pad s0.heap.size sa b))).toArray U := fun av U hU hWU => ⟨rfl, State.WarmedH.trans hWr hWU, by rw [hU]; exact pas_nil (pas_trans (pcx_S hC) hS), by rw [hU]; exact hR, fun h => by rw [hU]; exact hsz h⟩
  have hbl : ∀ av : List Value, FrameBlind (pPre D cy sa b Ls xs s0 av w) := fun _ _ _ _ _ h => h
  unfold pcl at hf
  split at hf
  · rename_i idx
    split at hf
    · rename_i M9 n9 hl
      split at hf
      · rename_i b9 rest9 hdrop
        split at hf
        · rename_i hcond
          obtain ⟨hok, hob, hn, hr4⟩ := hcond
          cases hf
          obtain ⟨⟨q1, q2, q3, T9, N9, q4⟩, q5, q6, q7⟩ := okM_all _ hM _ (plk_mem hl)
          obtain ⟨y1, y2, y3, y4, y5⟩ := okY_to_355 _ q7
          obtain ⟨p1, p2, p3⟩ := pok_eq hok
          have hG' := hG q7
          unfold pMet at hG'
          rw [mWd_c q5] at hG' y1
          obtain ⟨fs, hfs⟩ := isOb_eq (w := w) (v := b9) (ci := mI M') (by rw [hob]; decide)
          have hst : S.map (mV (pad s0.heap.size sa b)) = (((S.take n9).reverse).map (mV (pad s0.heap.size sa b))).reverse ++ .ref (pad s0.heap.size sa b b9) :: rest.map (mV (pad s0.heap.size sa b)) := by
            rw [ptake]
            conv => lhs; rw [← List.take_append_drop n9 S, hdrop, List.map_append]
            rfl
          exact vx_runV (C := (mY M').cls) (Ts := TG) (As := ((S.take n9).reverse).map (mV (pad s0.heap.size sa b))) (n := n9) ⟨hx, hb, hml, hown, hT⟩ hG' ⟨pj_cb hT y1 y2 q1 (okn_d q6 y5) ⟨by show mF M' + 1 ≤ R.frames; omega, by show 8 + (mN M' + 11) + mLo M' ≤ R.locals; omega⟩, hT _ q2, hT _ q3⟩ ⟨hbl _, va_recv hK hP q4 (pri_obj hR hfs (List.getElem?_eq_some_iff.mp q4).1), hpre _⟩ rfl (by rw [List.length_map, List.length_reverse, List.length_take]; omega) hls hst (by show 2 * 0 + _ ≤ 8; have := pcat8 (pad s0.heap.size sa b) hr4; omega) hd ⟨hcs, hss⟩
        · cases hf
      · cases hf
    · cases hf
  · rename_i idx
    split at hf
    · rename_i M9 n9 hl
      split at hf
      · rename_i b9 rest9 hdrop
        split at hf
        · rename_i hcond
          obtain ⟨hok, hob, hn, hr4, hx0⟩ := hcond
          cases hf
          obtain ⟨⟨q1, q2, q3, q4⟩, q5, q6, q7⟩ := okM_all _ hM _ (plk_mem hl)
          obtain ⟨y1, y2, y3, y4, y5⟩ := okY_to_355 _ q7
          obtain ⟨p1, p2, p3⟩ := pok_eq hok
          have hG' := met_of (hG q7) (fun E st t ⟨E9, h9, _⟩ => by have := hE E9 h9; omega)
          rw [mWd_c q5] at hG' y1
          dsimp only at q4
          rw [q4] at hG' y1
          have hst : S.map (mV (pad s0.heap.size sa b)) = (((S.take n9).reverse).map (mV (pad s0.heap.size sa b))).reverse ++ .ref (pad s0.heap.size sa b b9) :: rest.map (mV (pad s0.heap.size sa b)) := by
            rw [ptake]
            conv => lhs; rw [← List.take_append_drop n9 S, hdrop, List.map_append]
            rfl
          exact run_of (va_runI (Ts := TG) (As := ((S.take n9).reverse).map (mV (pad s0.heap.size sa b))) (n := n9) ⟨hx, hb, hml, hown, hT⟩ hG' ⟨pj_cb hT y1 y2 q1 (okn_d q6 y5) ⟨by show mF M' + 1 ≤ R.frames; omega, by show 8 + (mN M' + 11) + mLo M' ≤ R.locals; omega⟩, q3, hT _ q2⟩ ⟨hbl _, hpre (.ref b9 :: (S.take n9).reverse)⟩ rfl (by rw [List.length_map, List.length_reverse, List.length_take]; omega) hls hst (by show 2 * 0 + _ ≤ 8; have := pcat8 (pad s0.heap.size sa b) hr4; omega) hd ⟨hcs, hss⟩)
        · cases hf
      · cases hf
    · rename_i M9 n9 hl
      split at hf
      · rename_i b9 rest9 hdrop
        split at hf
        · rename_i hcond
          obtain ⟨hok, hob, hn, hr4, hx0⟩ := hcond
          cases hf
          obtain ⟨⟨q1, q2, q3, q4⟩, q5, q6, q7⟩ := okM_all _ hM _ (plk_mem hl)
          obtain ⟨y1, y2, y3, y4, y5⟩ := okY_to_355 _ q7
          obtain ⟨p1, p2, p3⟩ := pok_eq hok
          have hG' := met_of (hG q7) (fun E st t ⟨E9, h9, _⟩ => by have := hE E9 h9; omega)
          rw [mWd_c q5] at hG' y1
          dsimp only at q4
          rw [q4] at hG' y1
          have hst : S.map (mV (pad s0.heap.size sa b)) = (((S.take n9).reverse).map (mV (pad s0.heap.size sa b))).reverse ++ .ref (pad s0.heap.size sa b b9) :: rest.map (mV (pad s0.heap.size sa b)) := by
            rw [ptake]
            conv => lhs; rw [← List.take_append_drop n9 S, hdrop, List.map_append]
            rfl
          have hnw := va_Nw.warmM hWr (va_Nw.of (A := a0) rfl (hF.1.1 _ q1))
          exact run_of (va_runIN (Ts := TG) (As := ((S.take n9).reverse).map (mV (pad s0.heap.size sa b))) (n := n9) ⟨hx, hb, hml, hown, hT⟩ hG' ⟨va_cnB n9 hT (fun w h => TG_in w (by rw [List.mem_singleton.mp h]; exact y1)) rfl rfl rfl hnw (hT _ y2) (okn_d q6 y5) ⟨by show mF M' + 1 ≤ R.frames; omega, by show 8 + (mN M' + 11) + mLo M' ≤ R.locals; omega⟩, q3, hT _ q2⟩ ⟨hbl _, hpre (.ref b9 :: (S.take n9).reverse)⟩ rfl (by rw [List.length_map, List.length_reverse, List.length_take]; omega) hls hst (by show 2 * 0 + _ ≤ 8; have := pcat8 (pad s0.heap.size sa b) hr4; omega) hd ⟨hcs, hss⟩)
        · cases hf
      · cases hf
    · cases hf
  · rename_i idx
    split at hf
    · rename_i M9 n9 hl
      split at hf
      · rename_i hcond
        obtain ⟨hok, hn, hr4⟩ := hcond
        cases hf
        obtain ⟨⟨q1, q2⟩, q5, q6, q7⟩ := okM_all _ hM _ (plk_mem hl)
        obtain ⟨y1, y2, y3, y4, y5⟩ := okY_to_355 _ q7
        obtain ⟨p1, p2, p3⟩ := pok_eq hok
        have hG' := hG q7
        unfold pMet at hG'
        rw [mWd_c q5] at hG' y1
        have hst : S.map (mV (pad s0.heap.size sa b)) = (((S.take n9).reverse).map (mV (pad s0.heap.size sa b))).reverse ++ (S.drop n9).map (mV (pad s0.heap.size sa b)) := by
          rw [ptake, ← List.map_append, List.take_append_drop]
        exact vx_runS (Ts := TG) (As := ((S.take n9).reverse).map (mV (pad s0.heap.size sa b))) (n := n9) ⟨hx, hb, hml, hown, hT⟩ hG' ⟨pj_cb hT y1 y2 q1 (okn_d q6 y5) ⟨by show mF M' + 1 ≤ R.frames; omega, by show 8 + (mN M' + 11) + mLo M' ≤ R.locals; omega⟩, hT _ q2⟩ ⟨hbl _, hpre _⟩ rfl (by rw [List.length_map, List.length_reverse, List.length_take]; omega) hls hst (by show 2 * 0 + _ ≤ 8; have := pcat8 (pad s0.heap.size sa b) hr4; omega) hd ⟨hcs, hss⟩
      · cases hf
    · rename_i M9 n9 hl
      split at hf
      · rename_i hcond
        obtain ⟨hok, hn, hr4⟩ := hcond
        cases hf
        obtain ⟨⟨q1, q2⟩, q5, q6, q7⟩ := okM_all _ hM _ (plk_mem hl)
        obtain ⟨y1, y2, y3, y4, y5⟩ := okY_to_355 _ q7
        obtain ⟨p1, p2, p3⟩ := pok_eq hok
        have hG' := hG q7
        unfold pMet at hG'
        rw [mWd_h q5] at hG' y1
        have hst : S.map (mV (pad s0.heap.size sa b)) = (((S.take n9).reverse).map (mV (pad s0.heap.size sa b))).reverse ++ (S.drop n9).map (mV (pad s0.heap.size sa b)) := by
          rw [ptake, ← List.map_append, List.take_append_drop]
        have hgi : GoodIn TG (va_wsS (cN (mC M)) idx (mY M') [Cond.codeWith (mY M') (mB M') (mN M') (mR M') ((mH M').map (fun h => (h.1, h.2.1, h.2.2.1, h.2.2.2.1)))]) := fun w hw => TG_in w (by
          unfold va_wsS at hw
          simp only [List.mem_append, List.mem_cons, List.not_mem_nil, or_false] at hw
          rcases hw with (rfl | rfl | rfl) | rfl
          · exact q1
          · exact q2
          · exact y2
          · exact y1)
        exact vx_runSX (Ts := TG) (As := ((S.take n9).reverse).map (mV (pad s0.heap.size sa b))) (n := n9) ⟨hx, hb, hml, hown, hT⟩ hG' (vx_cwSW n9 hT hgi rfl rfl rfl (okn_d q6 y5) ⟨by show mF M' + 1 ≤ R.frames; omega, by show 8 + (mN M' + 11) + mLo M' ≤ R.locals; omega⟩) ⟨hbl _, hpre _⟩ rfl (by rw [List.length_map, List.length_reverse, List.length_take]; omega) hls hst (by show 2 * 0 + _ ≤ 8; have := pcat8 (pad s0.heap.size sa b) hr4; omega) hd ⟨hcs, hss⟩
      · cases hf
    · cases hf
  · cases hf
end PCALL
