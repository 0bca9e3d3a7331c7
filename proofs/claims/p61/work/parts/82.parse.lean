/-! THE TEXT AND WHAT IS READ OF IT -/
def Re (l : List Nat) (p : Nat) (s : List Nat) : Prop := p ≤ l.length ∧ l.drop p = s
def hd (P : Nat → Bool) (s : List Nat) : Prop := ∀ c r, s = c :: r → P c = false
section PRS
variable {l a s w : List Nat} {p : Nat} {P : Nat → Bool}
theorem Re.get (h : Re l p s) (i : Nat) : l.getD (p + i) 0 = s.getD i 0 := by
  rw [← h.2, List.getD_eq_getElem?_getD, List.getD_eq_getElem?_getD, List.getElem?_drop]
theorem Re.len (h : Re l p s) : l.length = p + s.length := by
  rw [← h.2, List.length_drop]
  have := h.1
  omega
theorem Re.adv (h : Re l p (a ++ s)) : Re l (p + a.length) s := by
  have hl := h.len
  rw [List.length_append] at hl
  refine ⟨by omega, ?_⟩
  have e : (l.drop p).drop a.length = s := by rw [h.2, List.drop_left]
  rw [List.drop_drop] at e
  exact e
theorem Re.wh (h : Re l p (a ++ s)) (ha : ∀ c ∈ a, P c = true) (hs : hd P s) : sWh P l p = p + a.length ∧ Re l (p + a.length) s := by
  have h2 := h.adv
  have hl := h.len
  rw [List.length_append] at hl
  refine ⟨sWh_at (fun y hy => ?_) (fun q => ?_) (by omega), h2⟩
  · rw [h.get, List.getD_eq_getElem?_getD, List.getElem?_append_left hy, List.getElem?_eq_getElem hy]
    exact ha _ (List.getElem_mem _)
  · have := h2.get 0
    rw [Nat.add_zero] at this
    rw [this]
    match s, hs, hl with
    | [], _, hl => simp at hl; omega
    | c :: r, hs, _ => exact hs c r rfl
theorem hd_cons {c : Nat} {r : List Nat} (h : P c = false) : hd P (c :: r) := fun c' r' e => by
  cases e
  exact h
theorem hd_nil : hd P [] := fun c r e => by cases e
/-- a number in digits -/
def nu (v : Nat) : List Nat := if v < 10 then [48 + v] else [48 + v / 10, 48 + v % 10]
theorem nu_dg {v : Nat} (hv : v < 100) : ∀ c ∈ nu v, isDg c = true := by
  intro c hc
  unfold nu at hc
  unfold isDg
  split at hc
  · rw [List.mem_singleton.mp hc]
    exact decide_eq_true ⟨by omega, by omega⟩
  · rcases List.mem_cons.mp hc with e | e
    · rw [e]
      exact decide_eq_true ⟨by omega, by omega⟩
    · rw [List.mem_singleton.mp e]
      exact decide_eq_true ⟨by omega, by omega⟩
theorem nu_len (v : Nat) : 0 < (nu v).length ∧ (nu v).length ≤ 2 := by
  unfold nu
  split
  · exact ⟨Nat.one_pos, by show 1 ≤ 2; omega⟩
  · exact ⟨by show 0 < 2; omega, Nat.le_refl _⟩
theorem nu_hd {v : Nat} (hv : v < 100) : ∃ c r, nu v = c :: r ∧ 48 ≤ c ∧ c ≤ 57 := by
  unfold nu
  split
  · exact ⟨_, _, rfl, by omega, by omega⟩
  · exact ⟨_, _, rfl, by omega, by omega⟩
theorem nu_sp {v : Nat} (hv : v < 100) : hd isSp (nu v ++ s) := by
  obtain ⟨c, r, e, h1, h2⟩ := nu_hd hv
  rw [e]
  exact hd_cons (decide_eq_false (by omega))
theorem nu_num {v : Nat} (hv : v < 100) (h : Re l p (nu v ++ s)) : sNum l p (nu v).length = v := by
  have g0 := h.get 0
  have g1 := h.get 1
  rw [Nat.add_zero] at g0
  unfold nu at g0 g1 ⊢
  by_cases q : v < 10
  · rw [if_pos q] at g0 ⊢
    show 10 * 0 + (l.getD (p + 0) 0 - 48) = v
    rw [Nat.add_zero, g0]
    show 10 * 0 + (48 + v - 48) = v
    omega
  · rw [if_neg q] at g0 g1 ⊢
    show 10 * (10 * 0 + (l.getD (p + 0) 0 - 48)) + (l.getD (p + 1) 0 - 48) = v
    rw [Nat.add_zero, g0, g1]
    show 10 * (10 * 0 + (48 + v / 10 - 48)) + (48 + v % 10 - 48) = v
    omega
theorem Re.rd {v : Nat} {lo hi : Int} (h : Re l p (32 :: (nu v ++ s))) (hv : v < 100) (hs : hd isDg s) (h1 : lo ≤ (v : Int)) (h2 : (v : Int) ≤ hi) : ∃ q, sRd l p lo hi = .inr (q, (v : Int)) ∧ Re l q s := by
  obtain ⟨a1, a2⟩ := Re.wh (P := isSp) (a := [32]) (s := nu v ++ s) h (fun c hc => by rw [List.mem_singleton.mp hc]; rfl) (nu_sp hv)
  obtain ⟨b1, b2⟩ := Re.wh (P := isDg) a2 (nu_dg hv) hs
  have hn := nu_num hv a2
  have hl := nu_len v
  refine ⟨_, ?_, b2⟩
  unfold sRd sW0
  rw [a1, b1, if_neg (by omega), Nat.add_sub_cancel_left, hn, if_pos ⟨h1, h2⟩]
theorem Re.wd {sp : List Nat} (h : Re l p (sp ++ (w ++ s))) (hsp : ∀ c ∈ sp, isSp c = true) (hw : ∀ c ∈ w, isAz c = true) (hw0 : hd isSp (w ++ s)) (hs : hd isAz s) : sW0 l p = p + sp.length ∧ sW1 l p = p + sp.length + w.length ∧ (∀ t, sIsW l (sW0 l p) (sW1 l p) t = decide (w = t)) ∧ Re l (sW1 l p) s := by
  obtain ⟨a1, a2⟩ := Re.wh (P := isSp) h hsp hw0
  obtain ⟨b1, b2⟩ := Re.wh (P := isAz) a2 hw hs
  have e0 : sW0 l p = p + sp.length := a1
  have e1 : sW1 l p = p + sp.length + w.length := by
    unfold sW1
    rw [a1]
    exact b1
  refine ⟨e0, e1, fun t => ?_, by rw [e1]; exact b2⟩
  rw [e0, e1]
  unfold sIsW
  rw [Nat.add_sub_cancel_left]
  have hg : ∀ i, i < w.length → l.getD (p + sp.length + i) 0 = w.getD i 0 := fun i hi => by
    rw [a2.get, List.getD_eq_getElem?_getD, List.getElem?_append_left hi, ← List.getD_eq_getElem?_getD]
  by_cases q : w.length = t.length
  · rw [decide_eq_true q, Bool.true_and]
    by_cases z : w = t
    · rw [decide_eq_true z]
      refine decide_eq_true (fnd_eq (fun j hj => ?_) (fun y => absurd y (Nat.lt_irrefl _)) (Nat.le_refl _))
      rw [hg j (by omega), z, decide_eq_true rfl]
      rfl
    · rw [decide_eq_false z]
      refine decide_eq_false (fun y => z (List.ext_getElem q (fun i h1 h2 => ?_)))
      have := (fnd_spec (fun i => !decide (l.getD (p + sp.length + i) 0 = t.getD i 0)) t.length).2.1 i (by rw [y]; exact h2)
      have : l.getD (p + sp.length + i) 0 = t.getD i 0 := by
        by_cases z2 : l.getD (p + sp.length + i) 0 = t.getD i 0
        · exact z2
        · rw [decide_eq_false z2] at this
          exact absurd this (by decide)
      rw [hg i h1, List.getD_eq_getElem?_getD, List.getD_eq_getElem?_getD, List.getElem?_eq_getElem h1, List.getElem?_eq_getElem h2] at this
      exact this
  · rw [decide_eq_false q, Bool.false_and, decide_eq_false (fun z => q (by rw [z]))]
/-- the four pitches of the law -/
def nmS : Nat → List Nat
  | 0 => [99]
  | 1 => [100]
  | 2 => [101]
  | _ => [99]
def oc : Nat → Nat
  | 0 => 0
  | 1 => 0
  | 2 => 0
  | _ => 1
def ixN : Nat → Nat
  | 0 => 0
  | 1 => 2
  | 2 => 4
  | _ => 0
def pit (k : Nat) : Int := 12 * (oc k : Int) + (ixN k : Nat)
theorem nm_fnd : ∀ k, k < 4 → fnd (fun i => decide (nmS k = nmL.getD i [])) 12 = ixN k ∧ ixN k ≠ 12 ∧ oc k ≤ 1 ∧ ∀ c ∈ nmS k, isAz c = true := by decide +kernel
theorem nm_sp : ∀ k, k < 4 → ∃ c, nmS k = [c] ∧ isSp c = false := by
  intro k hk
  match k, hk with
  | 0, _ => exact ⟨_, rfl, rfl⟩
  | 1, _ => exact ⟨_, rfl, rfl⟩
  | 2, _ => exact ⟨_, rfl, rfl⟩
  | 3, _ => exact ⟨_, rfl, rfl⟩
theorem Re.pt {k : Nat} (hk : k < 4) (h : Re l p (32 :: (nmS k ++ 32 :: (nu (oc k) ++ s)))) (hs : hd isDg s) : ∃ q, sPt l p = .inr (q, pit k) ∧ Re l q s := by
  obtain ⟨f1, f2, f3, f4⟩ := nm_fnd k hk
  have hsp : hd isSp (nmS k ++ 32 :: (nu (oc k) ++ s)) := by
    obtain ⟨c, e, hc⟩ := nm_sp k hk
    rw [e]
    exact hd_cons hc
  obtain ⟨e0, e1, e2, e3⟩ := Re.wd (sp := [32]) (w := nmS k) (s := 32 :: (nu (oc k) ++ s)) h (fun c hc => by rw [List.mem_singleton.mp hc]; rfl) f4 hsp (hd_cons (by decide))
  obtain ⟨q, g1, g2⟩ := Re.rd (lo := 0) (hi := 1) e3 (by omega) hs (by omega) (by omega)
  refine ⟨q, ?_, g2⟩
  have e : fnd (fun k' => sIsW l (sW0 l p) (sW1 l p) (nmL.getD k' [])) 12 = ixN k := by
    rw [← f1]
    exact fnd_congr (fun i _ => e2 _)
  unfold sPt
  rw [e, if_neg f2, g1]
  rfl
theorem rB_q {α β : Type} (q : Nat) (v : α) (f : Nat → α → (Int × Nat) ⊕ (Nat × β)) : rB (.inr (q, v)) f = f q v := rfl
/-- a sentence of the text: its kind and three numbers -/
abbrev ST : Type := Nat × Nat × Nat × Nat
def enc : ST → List Nat
  | (0, v, _, _) => wSpe ++ 32 :: nu v
  | (1, k, r, _) => wToo ++ 32 :: (nmS k ++ 32 :: (nu (oc k) ++ 32 :: nu r))
  | (2, u, s, k) => wNot ++ 32 :: (nu u ++ 32 :: (nu s ++ 32 :: (nmS k ++ 32 :: nu (oc k))))
  | (_, u, s, t) => wPin ++ 32 :: (nu u ++ 32 :: (nu s ++ 32 :: nu t))
def trl : ST → List Nat
  | (2, _, _, _) => [32]
  | _ => []
def sem (m : Row) : ST → Row
  | (0, v, _, _) => rOne m 3 (v : Int)
  | (1, k, r, _) => rTooth m (pit k) (r : Int)
  | (2, u, s, k) => rNote m (u : Int) (s : Int) (pit k)
  | (_, u, s, t) => rPut m u s (rOn m u s t 1)
def okS (m : Row) : ST → Prop
  | (0, v, _, _) => 1 ≤ v ∧ v ≤ 4
  | (1, k, r, _) => k < 4 ∧ (1 ≤ r ∧ r ≤ 12) ∧ m 4 < 12
  | (2, u, s, k) => k < 4 ∧ (u < 100 ∧ s < 100) ∧ (u : Int) < m 1 ∧ (s : Int) < m 0 ∧ m 5 < 60
  | (_, u, s, t) => (u < 100 ∧ s < 100 ∧ t < 100) ∧ (u : Int) < m 1 ∧ (s : Int) < m 0 ∧ (t : Int) < m 4
theorem wd_az : (∀ c ∈ wBar, isAz c = true) ∧ (∀ c ∈ wSpe, isAz c = true) ∧ (∀ c ∈ wToo, isAz c = true) ∧ (∀ c ∈ wNot, isAz c = true) ∧ (∀ c ∈ wPin, isAz c = true) := by decide +kernel
theorem Re.oth {m : Row} {st : ST} (h : Re l p (enc st ++ s)) (hok : okS m st) (hs : hd isDg s) : ∃ q, sOth l p m = .inr (q, sem m st) ∧ Re l q s := by
  obtain ⟨z0, z1, z2, z3, z4⟩ := wd_az
  have h32 : ∀ {r : List Nat}, hd isAz (32 :: r) := hd_cons (by decide)
  have h32d : ∀ {r : List Nat}, hd isDg (32 :: r) := hd_cons (by decide)
  match st, h, hok with
  | (0, v, _, _), h, hok =>
    obtain ⟨e0, e1, e2, e3⟩ := Re.wd (sp := []) (w := wSpe) (s := 32 :: (nu v ++ s)) (by
      have := show Re l p ((wSpe ++ 32 :: nu v) ++ s) from h
      simp only [List.append_assoc, List.cons_append] at this
      exact this) (fun c hc => by cases hc) z1 (hd_cons (by decide)) h32
    obtain ⟨h1, h2⟩ := hok
    obtain ⟨q, g1, g2⟩ := Re.rd (lo := 1) (hi := 4) e3 (by omega) hs (by omega) (by omega)
    refine ⟨q, ?_, g2⟩
    unfold sOth
    rw [e2, if_pos (by decide)]
    unfold sSpe
    rw [g1, rB_q]
    rfl
  | (1, k, r, _), h, hok =>
    obtain ⟨hk, hr, h4⟩ := hok
    obtain ⟨e0, e1, e2, e3⟩ := Re.wd (sp := []) (w := wToo) (s := 32 :: (nmS k ++ 32 :: (nu (oc k) ++ (32 :: (nu r ++ s))))) (by
      have := show Re l p ((wToo ++ 32 :: (nmS k ++ 32 :: (nu (oc k) ++ 32 :: nu r))) ++ s) from h
      simp only [List.append_assoc, List.cons_append] at this
      exact this) (fun c hc => by cases hc) z2 (hd_cons (by decide)) h32
    obtain ⟨q1, g1, g2⟩ := Re.pt hk e3 h32d
    obtain ⟨q2, g3, g4⟩ := Re.rd (lo := 1) (hi := 12) g2 (by omega) hs (by omega) (by omega)
    refine ⟨q2, ?_, g4⟩
    unfold sOth
    rw [e2, e2, if_neg (by decide), if_pos (by decide), if_pos h4]
    unfold sToo
    rw [g1, rB_q, g3, rB_q]
    rfl
  | (2, u, t, k), h, hok =>
    obtain ⟨hk, hr, h1, h0, h5⟩ := hok
    obtain ⟨e0, e1, e2, e3⟩ := Re.wd (sp := []) (w := wNot) (s := 32 :: (nu u ++ 32 :: (nu t ++ 32 :: (nmS k ++ 32 :: (nu (oc k) ++ s))))) (by
      have := show Re l p ((wNot ++ 32 :: (nu u ++ 32 :: (nu t ++ 32 :: (nmS k ++ 32 :: nu (oc k))))) ++ s) from h
      simp only [List.append_assoc, List.cons_append] at this
      exact this) (fun c hc => by cases hc) z3 (hd_cons (by decide)) h32
    obtain ⟨q1, g1, g2⟩ := Re.rd (lo := 0) (hi := m 1 - 1) e3 hr.1 h32d (by omega) (by omega)
    obtain ⟨q2, g3, g4⟩ := Re.rd (lo := 0) (hi := m 0 - 1) g2 hr.2 h32d (by omega) (by omega)
    obtain ⟨q3, g5, g6⟩ := Re.pt hk g4 hs
    refine ⟨q3, ?_, g6⟩
    unfold sOth
    rw [e2, e2, e2, if_neg (by decide), if_neg (by decide), if_pos (by decide), if_pos h5]
    unfold sNot
    rw [g1, rB_q, g3, rB_q, g5, rB_q]
    rfl
  | (x + 3, u, r, t), h, hok =>
    obtain ⟨hr, h1, h0, h4⟩ := hok
    obtain ⟨e0, e1, e2, e3⟩ := Re.wd (sp := []) (w := wPin) (s := 32 :: (nu u ++ 32 :: (nu r ++ 32 :: (nu t ++ s)))) (by
      have := show Re l p ((wPin ++ 32 :: (nu u ++ 32 :: (nu r ++ 32 :: nu t))) ++ s) from h
      simp only [List.append_assoc, List.cons_append] at this
      exact this) (fun c hc => by cases hc) z4 (hd_cons (by decide)) h32
    obtain ⟨q1, g1, g2⟩ := Re.rd (lo := 0) (hi := m 1 - 1) e3 hr.1 h32d (by omega) (by omega)
    obtain ⟨q2, g3, g4⟩ := Re.rd (lo := 0) (hi := m 0 - 1) g2 hr.2.1 h32d (by omega) (by omega)
    obtain ⟨q3, g5, g6⟩ := Re.rd (lo := 0) (hi := m 4 - 1) g4 hr.2.2 hs (by omega) (by omega)
    refine ⟨q3, ?_, g6⟩
    unfold sOth
    rw [e2, e2, e2, e2, if_neg (by decide), if_neg (by decide), if_neg (by decide), if_pos (by decide)]
    unfold sPin
    rw [g1, rB_q, g3, rB_q, g5, rB_q]
    rfl
def encs : List ST → List Nat
  | [] => []
  | st :: L => 59 :: (enc st ++ (trl st ++ encs L))
def semL (m : Row) : List ST → Row
  | [] => m
  | st :: L => semL (sem m st) L
def okL (m : Row) : List ST → Prop
  | [] => True
  | st :: L => okS m st ∧ okL (sem m st) L
theorem trl_sp (st : ST) : ∀ c ∈ trl st, isSp c = true := by
  intro c hc
  match st, hc with
  | (0, _, _, _), hc => cases hc
  | (1, _, _, _), hc => cases hc
  | (2, _, _, _), hc => rw [List.mem_singleton.mp hc]; rfl
  | (x + 3, _, _, _), hc => cases hc
theorem encs_hd {P : Nat → Bool} (h : P 59 = false) (L : List ST) : hd P (encs L) := by
  cases L with
  | nil => exact hd_nil
  | cons st L => exact hd_cons h
theorem trl_hd (st : ST) (L : List ST) : hd isDg (trl st ++ encs L) := by
  match st with
  | (0, _, _, _) => exact encs_hd (by decide) L
  | (1, _, _, _) => exact encs_hd (by decide) L
  | (2, _, _, _) => exact hd_cons (by decide)
  | (x + 3, _, _, _) => exact encs_hd (by decide) L
theorem stm_all : ∀ (L : List ST) (f p : Nat) (m : Row) (i : Nat) (sp : List Nat), (∀ c ∈ sp, isSp c = true) → Re l p (sp ++ encs L) → okL m L → L.length ≤ f → sStm l f p m i = .inr (semL m L) := by
  intro L
  induction L with
  | nil =>
    intro f p m i sp hsp h _ _
    cases f with
    | zero => rfl
    | succ f =>
      obtain ⟨a1, a2⟩ := Re.wh (P := isSp) h hsp (encs_hd (by decide) [])
      have hl := a2.len
      have e : sW0 l p = p + sp.length := a1
      show (if sW0 l p < l.length then _ else _) = _
      rw [if_neg (by rw [e]; have : l.length = p + sp.length + 0 := hl; omega)]
      rfl
  | cons st L ih =>
    intro f p m i sp hsp h hok hf
    cases f with
    | zero => exact absurd hf (by simp)
    | succ f =>
      obtain ⟨a1, a2⟩ := Re.wh (P := isSp) h hsp (encs_hd (by decide) (st :: L))
      have hl := a2.len
      have e : sW0 l p = p + sp.length := a1
      have g := a2.get 0
      rw [Nat.add_zero] at g
      have h1 : Re l (p + sp.length + 1) (enc st ++ (trl st ++ encs L)) := Re.adv (a := [59]) a2
      obtain ⟨q, g1, g2⟩ := h1.oth hok.1 (trl_hd st L)
      have hlt : p + sp.length < l.length := by
        have : l.length = p + sp.length + ((enc st ++ (trl st ++ encs L)).length + 1) := hl
        omega
      have g59 : l.getD (p + sp.length) 0 = 59 := g
      unfold sStm
      rw [e, if_pos hlt, if_pos g59, g1]
      exact ih f q (sem m st) (i + 1) (trl st) (trl_sp st) g2 hok.2 (by simp at hf; omega)
/-- the whole text -/
def tAll (S U g : Nat) (L : List ST) : List Nat := wBar ++ 32 :: (nu S ++ 32 :: (nu U ++ 32 :: (nu g ++ encs L)))
theorem encs_len : ∀ L : List ST, L.length ≤ (encs L).length := by
  intro L
  induction L with
  | nil => exact Nat.le_refl _
  | cons st L ih =>
    show L.length + 1 ≤ (enc st ++ (trl st ++ encs L)).length + 1
    rw [List.length_append, List.length_append]
    omega
theorem load_all {S U g : Nat} {L : List ST} (hS : 8 ≤ S ∧ S ≤ 64) (hU : 1 ≤ U ∧ U ≤ 3) (hg : g ≤ 3) (hok : okL (rBegin S U g) L) : sLoad (tAll S U g L) = .inr (semL (rBegin S U g) L) := by
  have h32 : ∀ {r : List Nat}, hd isAz (32 :: r) := hd_cons (by decide)
  have h32d : ∀ {r : List Nat}, hd isDg (32 :: r) := hd_cons (by decide)
  have h : Re (tAll S U g L) 0 (tAll S U g L) := ⟨Nat.zero_le _, List.drop_zero⟩
  have hlen : L.length ≤ (tAll S U g L).length + 1 := by
    have := encs_len L
    unfold tAll
    simp only [List.length_append, List.length_cons]
    omega
  generalize hT : tAll S U g L = T at h hlen ⊢
  have h' : Re T 0 ([] ++ (wBar ++ 32 :: (nu S ++ 32 :: (nu U ++ 32 :: (nu g ++ encs L))))) := by
    have e : T = wBar ++ 32 :: (nu S ++ 32 :: (nu U ++ 32 :: (nu g ++ encs L))) := hT.symm
    exact ⟨Nat.zero_le _, by rw [List.drop_zero]; exact e⟩
  obtain ⟨e0, e1, e2, e3⟩ := Re.wd (sp := []) (w := wBar) h' (fun c hc => by cases hc) wd_az.1 (hd_cons (by decide)) h32
  obtain ⟨q1, g1, g2⟩ := Re.rd (lo := 8) (hi := 64) e3 (by omega) h32d (by omega) (by omega)
  obtain ⟨q2, g3, g4⟩ := Re.rd (lo := 1) (hi := 3) g2 (by omega) h32d (by omega) (by omega)
  obtain ⟨q3, g5, g6⟩ := Re.rd (lo := 0) (hi := 3) g4 (by omega) (encs_hd (by decide) L) (by omega) (by omega)
  have eb : sBar T 0 = .inr (q3, rBegin S U g) := by
    unfold sBar
    rw [e2, if_pos (by decide), g1, rB_q, g3, rB_q, g5, rB_q]
  unfold sLoad
  rw [eb]
  exact stm_all L _ q3 _ 0 [] (fun c hc => by cases hc) g6 hok hlen
end PRS
