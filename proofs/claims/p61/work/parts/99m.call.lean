/-! THE START: what the law's calls stand on -/
section LWC
variable {p : Program} {l : Launch} {e : Env} {R : Room} {s : State} {m : MethodId} {args : Array Value} {below : List Frame} {meth : Method} {c : Code} {H H9 : Heap} {locs : List Loc} {cells slots : Nat} {Q : State → Prop} {pc : Nat} {ls : Array Slot} {rest st0 : List Value}
variable {D Dt : va_G} {cy : Nat → ClassId} {sa sv : Nat → Nat} {b L : Nat} {xs : Nat → Int32} {tx : List Nat} {s0 : State} {a0 : Array Value} {w w' : PW} {z : Nat}
theorem lb_go {v : Option Value} {a : Array Value} {mc ms : Nat} (hr : va_Run p l e R s m args below meth c H locs cells slots mc ms (F0 m pc ls st0) rest (pQc D cy sa b L z xs tx s0 v w' a) (pA z s0.heap.size)) (hz : s.heap.size ≤ z) (hS : va_S (fun q => s.heap.size ≤ q) s.heap H locs) (hS2 : va_S (pA z s0.heap.size) s0.heap H [])
    (kk : ∀ (H1 : Heap) (locs1 : List Loc), pRi D (pad z sa b) cy L xs tx w' H1 → va_S (fun q => s.heap.size ≤ q) s.heap H1 locs1 → va_S (pA z s0.heap.size) s0.heap H1 [] → W p l e R s m args below meth c H1 locs1 (cells + mc) (slots + ms) Q (F0 m (pc + 3) ls ((v.map (mV (pad z sa b))).toList ++ rest))) :
    W p l e R s m args below meth c H locs cells slots Q (F0 m pc ls st0) := by
  intro T hT X
  obtain ⟨v9, st₀, t, T', L9, h0, X', hL, e1, e2, ⟨hv, hF, hRi⟩, st⟩ := hr T hT X
  cases hv
  have k3 : va_S (fun q => s.heap.size ≤ q) s.heap T'.heap (locs ++ L9) := ⟨Nat.le_trans hS.1 (by rw [e1, ← h0]; exact hF.1), fun q h1 h2 => by rw [e1, hF.2 q (by rw [h0]; exact Nat.lt_of_lt_of_le h1 hS.1) (fun y => h2 (Nat.le_trans hz y.1)), h0]; exact hS.2.1 q h1 h2, fun q hq => (List.mem_append.mp hq).elim (hS.2.2 q) (fun y => Nat.le_trans hz (hL q y).1)⟩
  have k4 : va_S (pA z s0.heap.size) s0.heap T'.heap [] := ⟨Nat.le_trans hS2.1 (by rw [e1, ← h0]; exact hF.1), fun q h1 h2 => by rw [e1, hF.2 q (by rw [h0]; exact Nat.lt_of_lt_of_le h1 hS2.1) h2, h0]; exact hS2.2.1 q h1 h2, fun q hq => by cases hq⟩
  obtain ⟨t2, a1, b1⟩ := kk T'.heap (locs ++ L9) (by rw [e1]; exact hRi) k3 k4 T' rfl X'
  exact ⟨t2, st t2 a1, b1⟩
theorem tx_go {K : Option Value → Heap → Prop} {a : Array Value} {mc ms : Nat} (hr : va_Run p l e R s m args below meth c H locs cells slots mc ms (F0 m pc ls st0) rest (tQ (sH s H) K a) (tA (sH s H))) (hS : va_S (fun q => s.heap.size ≤ q) s.heap H locs)
    (kk : ∀ (v : Option Value) (H1 : Heap) (locs1 : List Loc), K v H1 → va_S (fun q => s.heap.size ≤ q) s.heap H1 locs1 → (H.size ≤ H1.size ∧ ∀ q : Nat, q < H.size → H1[q]? = H[q]?) → W p l e R s m args below meth c H1 locs1 (cells + mc) (slots + ms) Q (F0 m (pc + 3) ls (v.toList ++ rest))) :
    W p l e R s m args below meth c H locs cells slots Q (F0 m pc ls st0) := by
  intro T hT X
  obtain ⟨v9, st₀, t, T', L9, h0, X', hL, e1, e2, ⟨v, hv, hF, hK⟩, st⟩ := hr T hT X
  cases hv
  have k2 : H.size ≤ T'.heap.size ∧ ∀ q : Nat, q < H.size → T'.heap[q]? = H[q]? := ⟨by rw [e1, ← h0]; exact hF.1, fun q hq => by rw [e1, hF.2 q (by rw [h0]; exact hq) (Nat.not_le.mpr hq), h0]⟩
  have k3 : va_S (fun q => s.heap.size ≤ q) s.heap T'.heap (locs ++ L9) := ⟨Nat.le_trans hS.1 k2.1, fun q h1 h2 => (k2.2 q (Nat.lt_of_lt_of_le h1 hS.1)).trans (hS.2.1 q h1 h2), fun q hq => (List.mem_append.mp hq).elim (hS.2.2 q) (fun y => Nat.le_trans hS.1 (hL q y))⟩
  obtain ⟨t2, a1, b1⟩ := kk v9 T'.heap (locs ++ L9) (by rw [e1]; exact hK) k3 k2 T' rfl X'
  exact ⟨t2, st t2 a1, b1⟩
theorem pad_tx {st : Nat} (h : sa 500000 = st) : pad z sa b pTX = st := (pad_sb (i := 500000) (by decide)).trans h
/-- what the class's methods stand on, at any heap that keeps the old cells -/
theorem mk_Fx (hts : ∀ w ∈ lw_tbl, w.before a0 s = true) (hF : ∀ w ∈ FL, w.before a0 s = true) (hD : ∀ (c : Nat) (q : vw_C), vwCl[c]? = some q → u_Kn s q.1 q.2.1 q.2.2 (D.1 c) (D.2 c)) (hcy : ∀ (k : Nat) (q : ClassId × FieldType), (ptys cy)[k]? = some q → ArrOfT s q.1 q.2 ∧ va_RA s q.1 q.2) (hX : va_X b L xs s s.heap) (hbl : b < s.heap.size)
    (hk : ∀ q : Nat, q < s.heap.size → H9[q]? = s.heap[q]?) (hsz : s.heap.size ≤ H9.size) {st q9 : Nat} (htx : pSt tx st q9 (pA s.heap.size H9.size) (sH s H9) H9) (hch : pch tx) : ∃ sa sv : Nat → Nat, sa 500000 = st ∧ pFx l D cy sa sv b L s.heap.size xs tx (sH s H9) a0 := by
  have hA : ∀ a : Nat, a < s.heap.size → ¬ pA s.heap.size H9.size a := fun a h y => absurd y.1 (Nat.not_le.mpr h)
  obtain ⟨sa, sv, h1, h2⟩ := str_K hts hF hA
  obtain ⟨z1, z2⟩ := sta_K hts hF hA
  refine ⟨fun i => if i = 500000 then st else sa i, fun i => if i = 500000 then q9 else sv i, if_pos rfl, ⟨sH_tbl hk hts, va_K.moved sH_alike ⟨hD, hcy⟩, va_X.moved sH_alike (va_X.kept hX (hk b hbl)), Nat.lt_of_lt_of_le hbl hsz, ⟨hA b hbl, hsz⟩, fun i q hq => ?_⟩, fun i hi => ?_, ?_, hch, (va_Z.moved sH_alike z1).kept (fun q h _ => hk q h), (va_Zq.moved sH_alike z2).kept (fun q h _ => hk q h)⟩
  · have hi : i < 38 := (List.getElem?_eq_some_iff.mp hq).1
    have n : ¬ i = 500000 := by omega
    show vk_R q.1 q.2.1 q.2.2 (if i = 500000 then st else sa i) (sH s H9)
    rw [if_neg n]
    exact vk_R.same rfl (h2 i q hq)
  · have n : ¬ i = 500000 := by omega
    show pSt (sTx.getD i []) (if i = 500000 then st else sa i) (if i = 500000 then q9 else sv i) _ _ _
    rw [if_neg n, if_neg n]
    exact (pSt.moved sH_alike (h1 i hi)).kept (fun q h _ => hk q h)
  · show pSt tx (if (500000 : Nat) = 500000 then st else sa 500000) (if (500000 : Nat) = 500000 then q9 else sv 500000) _ _ _
    rw [if_pos rfl, if_pos rfl]
    exact htx
theorem byt_K (hcy : ∀ (k : Nat) (q : ClassId × FieldType), (ptys cy)[k]? = some q → ArrOfT s q.1 q.2 ∧ va_RA s q.1 q.2) : ∀ (k : Nat) (q : ClassId × FieldType), [(cy 4, FieldType.byte)][k]? = some q → ArrOfT s q.1 q.2 ∧ va_RA s q.1 q.2 := fun k q hq => by
  match k, hq with
  | 0, hq => cases hq; exact hcy 4 _ rfl
  | k + 1, hq => cases hq
/-- what the text stands on, at any heap that keeps the old cells -/
theorem mk_Cx (hts : ∀ w ∈ lw_tbl, w.before a0 s = true) (hF : ∀ w ∈ FL, w.before a0 s = true) (hDt : ∀ (c : Nat) (q : vw_C), tCl[c]? = some q → u_Kn s q.1 q.2.1 q.2.2 (Dt.1 c) (Dt.2 c)) (hcy : ∀ (k : Nat) (q : ClassId × FieldType), (ptys cy)[k]? = some q → ArrOfT s q.1 q.2 ∧ va_RA s q.1 q.2) (hX : va_X b L xs s s.heap) (hbl : b < s.heap.size) (hL : L < 2147483648)
    (hk : ∀ q : Nat, q < s.heap.size → H9[q]? = s.heap[q]?) (hsz : s.heap.size ≤ H9.size) : ∃ (dO dT : Nat) (sL aL : Nat → Nat), tCx Dt (cy 4) (sH s H9) a0 dO dT b L xs sL aL := by
  have hA : ∀ a : Nat, a < s.heap.size → ¬ tA (sH s H9) a := fun a h y => absurd (show H9.size ≤ a from y) (by omega)
  obtain ⟨z1, -⟩ := sta_K hts hF hA
  obtain ⟨dO, dT, d1, d2, d3, d4⟩ := dig_K hts hF hA
  obtain ⟨sL, aL, h1⟩ := lst_K hts hF hA
  refine ⟨dO, dT, sL, aL, ⟨sH_tbl hk hts, va_K.moved sH_alike ⟨hDt, byt_K hcy⟩, (va_Z.moved sH_alike z1).kept (fun q h _ => hk q h)⟩, ⟨(va_Z.moved sH_alike d1).kept (fun q h _ => hk q h), (va_Z.moved sH_alike d2).kept (fun q h _ => hk q h), (va_T.moved sH_alike d3).kept (fun q h _ => hk q h), (va_T.moved sH_alike d4).kept (fun q h _ => hk q h)⟩, ⟨va_X.moved sH_alike (va_X.kept hX (hk b hbl)), Nat.lt_of_lt_of_le hbl hsz, hL⟩, fun i hi => ⟨vk_R.same rfl (h1 i hi).1, (pSt.moved sH_alike (h1 i hi).2).kept (fun q h _ => hk q h)⟩⟩
set_option maxHeartbeats 1000000 in
/-- a static call of the law's, behind the constructor: no cell is made -/
theorem lw_call {M' n idx : Nat} {av : List Value} {v : Option Value} (hx : p.tables.exec = Jvm.exec) (hb : c.code = cL_law) (hml : c.maxLocals = 3) (hown : s.vm.findClass "PinBarrelLaw" = some m.cls) (hT : ∀ w ∈ TG, w.before args s = true) (hFx : pFx l D cy sa sv b L s.heap.size xs tx (sH s H9) a0) (hl9 : Cond.methodLink "PinBarrelLaw" idx (mY M') ∈ TG) (hst : Cond.static (mY M') ∈ TG) (hM : M' < pNM) (hnn : okn M' av.length) (hfr : mF M' + 1 ≤ R.frames ∧ 8 + (mN M' + 11) + mLo M' ≤ R.locals)
    (hrun : prun n M' av w = some (.inl v, w')) (h1 : w.1 = pNA) (h2 : w'.1 = pNA) (hR : pRi D (pad s.heap.size sa b) cy L xs tx w H) (hS : va_S (fun q => s.heap.size ≤ q) s.heap H locs) (hS2 : va_S (pA s.heap.size H9.size) H9 H []) (hls : ls.size = 3) (hr : (rest.map fun v => v.category).sum ≤ 8) (hc : cells ≤ R.cells) (hs : slots ≤ R.slots) (hd : decode cL_law pc = .ok (.invokestatic idx, 3)) (hst0 : st0 = (av.map (mV (pad s.heap.size sa b))).reverse ++ rest)
    (kk : ∀ (H1 : Heap) (locs1 : List Loc), pRi D (pad s.heap.size sa b) cy L xs tx w' H1 → va_S (fun q => s.heap.size ≤ q) s.heap H1 locs1 → va_S (pA s.heap.size H9.size) H9 H1 [] → W p l e R s m args below meth c H1 locs1 cells slots Q (F0 m (pc + 3) ls ((v.map (mV (pad s.heap.size sa b))).toList ++ rest))) :
    W p l e R s m args below meth c H locs cells slots Q (F0 m pc ls st0) := by
  have hsl : (w'.1 = w.1 ∧ w'.2.1 = w.2.1) ∨ w.1 < w'.1 := prun_sl n M' av w _ hrun
  obtain ⟨y1, y2, y3, y4, y5⟩ := okY_to_227 M' hM
  have hG := prun_all hFx n M' av w v w' hM hrun
  unfold pMet at hG
  rw [mWd_c] at y1
  refine lb_go (s0 := sH s H9) (va_runS (Ts := TG) (As := av.map (mV (pad s.heap.size sa b))) (n := av.length) (nL := 3) (rest := rest) ⟨hx, hb, hml, hown, hT⟩ hG ⟨pj_cb hT y1 y2 hl9 (okn_d hnn y5) hfr, hT _ hst⟩ ⟨fun _ _ _ _ h => h, fun U hU hWU => ⟨rfl, sH_warm hWU, by rw [hU]; exact hS2, by rw [hU]; exact hR, fun h => absurd h (by rw [h1]; exact Nat.lt_irrefl _)⟩⟩ rfl (by rw [List.length_map]) hls hst0 (by show 2 * 0 + _ ≤ 8; omega) hd ⟨by show cells + (w'.1 - w.1) ≤ R.cells; omega, by show slots + (w'.2.1 - w.2.1) ≤ R.slots; omega⟩) (Nat.le_refl _) hS hS2 (fun H1 locs1 g1 g2 g3 => ?_)
  exact W.widen (k := cells) (n := slots) (by show cells + (w'.1 - w.1) ≤ cells; omega) (by show slots + (w'.2.1 - w.2.1) ≤ slots; omega) (kk H1 locs1 g1 g2 g3)
end LWC
