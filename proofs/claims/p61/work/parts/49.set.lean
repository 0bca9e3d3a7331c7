/-! one number set in a row, in a box -/
section MS
variable {m : Row} {z : Int} {k : Nat}
theorem mset_ne {j : Nat} (h : j ≠ k) : mset m k z j = m j := if_neg h
theorem mset_eq : mset m k z k = z := if_pos rfl
theorem mset_ok (h : RowOK m) (hk : (k = 2 ∧ 0 ≤ z ∧ z ≤ 3) ∨ (k = 3 ∧ 1 ≤ z ∧ z ≤ 4) ∨ (k = 6 ∧ 0 ≤ z ∧ z < m 1)) : RowOK (mset m k z) := by
  have e : ∀ j, j ≠ k → mset m k z j = m j := fun j hj => mset_ne hj
  unfold RowOK
  rw [e 0 (by omega), e 1 (by omega), e 4 (by omega), e 5 (by omega), e 7 (by omega), e 8 (by omega), e 9 (by omega), e 10 (by omega)]
  refine ⟨h.s, h.u, ?_, ?_, h.t, h.n, ?_, h.ps, h.pt, h.pp, h.pb, ?_, ?_, ?_⟩
  · by_cases q : k = 2
    · subst q; rw [mset_eq]; omega
    · rw [e 2 (fun z => q z.symm)]; exact h.g
  · by_cases q : k = 3
    · subst q; rw [mset_eq]; omega
    · rw [e 3 (fun z => q z.symm)]; exact h.v
  · by_cases q : k = 6
    · subst q; rw [mset_eq]; omega
    · rw [e 6 (fun z => q z.symm)]; exact h.pu
  · have := ok_T (m' := mset m k z) h (e 4 (by omega)) (e 8 (by omega)) (e 9 (by omega)) (fun t i _ _ => e _ (by omega))
    rw [e 4 (by omega), e 8 (by omega), e 9 (by omega)] at this
    exact this
  · have := ok_N (m' := mset m k z) h (e 0 (by omega)) (e 1 (by omega)) (e 5 (by omega)) (fun t i _ _ => e _ (by omega))
    rw [e 0 (by omega), e 1 (by omega), e 5 (by omega)] at this
    exact this
  · have := ok_P (m' := mset m k z) h (e 0 (by omega)) (e 1 (by omega)) (e 4 (by omega)) (fun u s _ _ => e _ (by omega))
    rw [e 0 (by omega), e 1 (by omega), e 4 (by omega)] at this
    exact this
/-- the pitch, the rest of a tooth -/
theorem mset_okT (h : RowOK m) {t c : Nat} (ht : (t : Int) < m 4) (hc : (c = 0 ∧ 0 ≤ z ∧ z < 24) ∨ (c = 1 ∧ 1 ≤ z ∧ z ≤ 12)) : RowOK (mset m (11 + 5 * t + c) z) := by
  have h4 := h.t
  have e : ∀ j, j ≠ 11 + 5 * t + c → mset m (11 + 5 * t + c) z j = m j := fun j hj => mset_ne hj
  unfold RowOK
  rw [e 0 (by omega), e 1 (by omega), e 2 (by omega), e 3 (by omega), e 4 (by omega), e 5 (by omega), e 6 (by omega), e 7 (by omega), e 8 (by omega), e 9 (by omega), e 10 (by omega)]
  refine ⟨h.s, h.u, h.g, h.v, h.t, h.n, h.pu, h.ps, h.pt, h.pp, h.pb, fun i hi => ?_, ?_, ?_⟩
  · have a := h.T hi
    have ev : ∀ k, k < 5 → rT (mset m (11 + 5 * t + c) z) i k = if i = t ∧ k = c then z else rT m i k := fun k hk => by
      show mset m (11 + 5 * t + c) z (11 + 5 * i + k) = _
      by_cases q : i = t ∧ k = c
      · rw [if_pos q, q.1, q.2]; exact mset_eq
      · rw [if_neg q]; exact e _ (by omega)
    rw [ev 0 (by decide), ev 1 (by decide), ev 2 (by decide), ev 3 (by decide), ev 4 (by decide)]
    rw [if_neg (show ¬ (i = t ∧ 2 = c) by omega), if_neg (show ¬ (i = t ∧ 3 = c) by omega), if_neg (show ¬ (i = t ∧ 4 = c) by omega)]
    refine ⟨?_, ?_, a.2.2⟩
    · by_cases q : i = t ∧ 0 = c
      · rw [if_pos q]; omega
      · rw [if_neg q]; exact a.1
    · by_cases q : i = t ∧ 1 = c
      · rw [if_pos q]; omega
      · rw [if_neg q]; exact a.2.1
  · have := ok_N (m' := mset m (11 + 5 * t + c) z) h (e 0 (by omega)) (e 1 (by omega)) (e 5 (by omega)) (fun i k _ _ => e _ (by omega))
    rw [e 0 (by omega), e 1 (by omega), e 5 (by omega)] at this
    exact this
  · have := ok_P (m' := mset m (11 + 5 * t + c) z) h (e 0 (by omega)) (e 1 (by omega)) (e 4 (by omega)) (fun u s _ _ => e _ (by omega))
    rw [e 0 (by omega), e 1 (by omega), e 4 (by omega)] at this
    exact this
end MS
/-- a box in which one cell is another one -/
theorem setW {w w' : PW} {b a i k : Nat} {m : Row} {z : Int} (hs : Sh w) (hB : BR w b m) (e : w' = sI w a i z) (hok : RowOK (mset m k z)) (hz : bd z) (hc : (a = b ∧ i = k ∧ (k = 2 ∨ k = 3)) ∨ (a = b + 8 ∧ i = 0 ∧ k = 6) ∨ (∃ t c : Nat, (t : Int) < m 4 ∧ c < 2 ∧ a = b + 1 + c ∧ i = t ∧ k = 11 + 5 * t + c)) : Sh w' ∧ BR w' b (mset m k z) ∧ OB b w w' := by
  have hb := hB.bx
  have a0 := bx_lt hb
  have h4 := hB.ok.t
  have hslt : slt (tb a) i := by
    rcases hc with ⟨rfl, rfl, hk | hk⟩ | ⟨rfl, rfl, -⟩ | ⟨t, c, -, hc2, rfl, rfl, -⟩
    · subst hk; exact slt_o (tb0 hb) rfl
    · subst hk; exact slt_o (tb0 hb) rfl
    · exact slt_o (tb8 hb) rfl
    · have hc3 : c = 0 ∨ c = 1 := by omega
      rcases hc3 with rfl | rfl
      · exact slt_a (tb1 hb)
      · exact slt_a (tb2 hb)
  have ha : a < 182 ∧ b ≤ a ∧ a < b + 13 ∧ a ≠ b + 3 ∧ a ≠ b + 4 ∧ a ≠ b + 5 ∧ a ≠ b + 6 ∧ a ≠ b + 7 ∧ a ≠ b + 9 ∧ a ≠ b + 10 ∧ a ≠ b + 11 ∧ a ≠ b + 12 := by
    rcases hc with ⟨rfl, -⟩ | ⟨rfl, -⟩ | ⟨t, c, -, hc2, rfl, -⟩ <;> omega
  have hk : k = 2 ∨ k = 3 ∨ k = 6 ∨ (∃ t c : Nat, (t : Int) < m 4 ∧ c < 2 ∧ k = 11 + 5 * t + c) := by
    rcases hc with ⟨-, -, hk | hk⟩ | ⟨-, -, hk⟩ | ⟨t, c, h1, h2, -, -, h3⟩
    · exact Or.inl hk
    · exact Or.inr (Or.inl hk)
    · exact Or.inr (Or.inr (Or.inl hk))
    · exact Or.inr (Or.inr (Or.inr ⟨t, c, h1, h2, h3⟩))
  have hk2 : ∀ j, (j < 2 ∨ j = 4 ∨ j = 5 ∨ (6 < j ∧ j < 11) ∨ 71 ≤ j) → j ≠ k := by
    intro j hj
    rcases hk with rfl | rfl | rfl | ⟨t, c, h1, h2, rfl⟩ <;> omega
  obtain ⟨s1, g1, l1, k1⟩ := stI e hs ha.1 hslt hz
  have me : ∀ j, j ≠ k → mset m k z j = m j := fun j hj => mset_ne hj
  have gn : ∀ c j, ¬ (c = a ∧ j = i) → gI w' c j = gI w c j := fun c j h => by rw [g1, if_neg h]
  have gd : ∀ d j, (d = b + 4 ∨ d = b + 5 ∨ d = b + 6 ∨ d = b + 7 ∨ d = b + 9 ∨ d = b + 10 ∨ d = b + 11 ∨ d = b + 12) → gI w' d j = gI w d j := fun d j hd => gI_cell (k1 d (by clear hc hk; omega)) j
  refine ⟨s1, ⟨hb, hok, ⟨?_, ?_, ?_, ?_, ?_⟩, fun t ht => ?_, ?_, fun j hj => ?_, ⟨?_, ?_, ?_, ?_, ?_⟩, fun j hj1 hj2 => ?_, fun j s hj hs9 => ?_⟩, fun c hc2 => k1 c (by clear hc hk; omega)⟩
  · rw [me 0 (hk2 0 (by simp)), gn _ _ (by rcases hc with h | h | ⟨t, c, h⟩ <;> omega)]; exact hB.s
  · rw [me 1 (hk2 1 (by simp)), gn _ _ (by rcases hc with h | h | ⟨t, c, h⟩ <;> omega)]; exact hB.u
  · by_cases q : k = 2
    · subst q; rw [mset_eq, g1, if_pos (by rcases hc with h | h | ⟨t, c, h⟩ <;> omega)]
    · rw [me 2 (fun z => q z.symm), gn _ _ (by rcases hc with h | h | ⟨t, c, h⟩ <;> omega)]; exact hB.g
  · by_cases q : k = 3
    · subst q; rw [mset_eq, g1, if_pos (by rcases hc with h | h | ⟨t, c, h⟩ <;> omega)]
    · rw [me 3 (fun z => q z.symm), gn _ _ (by rcases hc with h | h | ⟨t, c, h⟩ <;> omega)]; exact hB.v
  · rw [me 4 (hk2 4 (by simp)), gn _ _ (by rcases hc with h | h | ⟨t, c, h⟩ <;> omega)]; exact hB.t
  · rw [me 4 (hk2 4 (by simp))] at ht
    obtain ⟨f1, f2, f3, f4, f5⟩ := hB.T ht
    have e1 : ∀ c2, c2 < 2 → gI w' (b + 1 + c2) t = rT (mset m k z) t c2 := by
      intro c2 hc2
      have hv : gI w (b + 1 + c2) t = rT m t c2 := by
        have : c2 = 0 ∨ c2 = 1 := by omega
        rcases this with rfl | rfl
        · exact f1
        · exact f2
      show _ = mset m k z (11 + 5 * t + c2)
      rw [g1]
      by_cases q : b + 1 + c2 = a ∧ t = i
      · rw [if_pos q]
        have : 11 + 5 * t + c2 = k := by rcases hc with h | h | ⟨t1, c1, h⟩ <;> omega
        rw [this, mset_eq]
      · rw [if_neg q, hv]
        refine (me _ ?_).symm
        rcases hc with h | h | ⟨t1, c1, h⟩ <;> omega
    have e2 : ∀ c2, 2 ≤ c2 → c2 < 5 → rT (mset m k z) t c2 = rT m t c2 := by
      intro c2 h1 h2
      refine me _ ?_
      rcases hk with rfl | rfl | rfl | ⟨t1, c1, h3, h4, rfl⟩ <;> omega
    rw [e2 2 (by decide) (by decide), e2 3 (by decide) (by decide), e2 4 (by decide) (by decide), gd (b + 9) t (by simp), gd (b + 10) t (by simp), gd (b + 11) t (by simp)]
    exact ⟨e1 0 (by decide), e1 1 (by decide), f3, f4, f5⟩
  · rw [me 5 (hk2 5 (by simp)), gd (b + 4) 0 (by simp)]; exact hB.n
  · rw [me 5 (hk2 5 (by simp))] at hj
    have e2 : ∀ c2, rN (mset m k z) j c2 = rN m j c2 := fun c2 => me _ (hk2 _ (by clear hc hk; omega))
    rw [e2, e2, e2, gd (b + 5) j (by simp), gd (b + 6) j (by simp), gd (b + 7) j (by simp)]
    exact hB.N hj
  · by_cases q : k = 6
    · subst q; rw [mset_eq, g1, if_pos (by rcases hc with h | h | ⟨t, c, h⟩ <;> omega)]
    · rw [me 6 (fun z => q z.symm), gn _ _ (by rcases hc with h | h | ⟨t, c, h⟩ <;> omega)]; exact hB.pu
  · rw [me 7 (hk2 7 (by simp)), gn _ _ (by rcases hc with h | h | ⟨t, c, h⟩ <;> omega)]; exact hB.ps
  · rw [me 8 (hk2 8 (by simp)), gn _ _ (by rcases hc with h | h | ⟨t, c, h⟩ <;> omega)]; exact hB.pt
  · rw [me 9 (hk2 9 (by simp)), gn _ _ (by rcases hc with h | h | ⟨t, c, h⟩ <;> omega)]; exact hB.pp
  · rw [me 10 (hk2 10 (by simp)), gn _ _ (by rcases hc with h | h | ⟨t, c, h⟩ <;> omega)]; exact hB.pb
  · rw [me 9 (hk2 9 (by simp))] at hj2
    rw [me _ (hk2 _ (by clear hc hk; omega)), gd (b + 12) j (by simp)]
    exact hB.M hj1 hj2
  · rw [l1, hB.P hj hs9]
    exact (rTr_eq hB.ok (me 0 (hk2 0 (by simp))) (me 1 (hk2 1 (by simp))) (me 4 (hk2 4 (by simp))) (fun u s t hu hs ht => by unfold rPin; rw [me _ (hk2 _ (by omega))]) j s).symm

