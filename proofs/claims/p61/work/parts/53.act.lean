/-! THE CLASS's FACE: actions -/
abbrev AR : Type := PO × Option Row
def aP {α : Type} (P : Prop) [Decidable P] (E : Nat) (r : PO × Option α) : PO × Option α := if P then r else (.inr E, none)
def aQ {α : Type} (P : Prop) [Decidable P] (r s : PO × Option α) : PO × Option α := if P then r else s
def aU {α : Type} (m : Row) (x : Int) (r : PO × Option α) : PO × Option α := aP (0 ≤ x ∧ x < m 1) 1 r
section APS
variable {α : Type} {A : Option α → PW → Prop} {E : Nat} {r s : PO × Option α} {Q : PO → PW → Prop}
theorem ap_t {P : Prop} [Decidable P] (h : ∀ w2, A (aP P E r).2 w2 → Q (aP P E r).1 w2) (q : P) : ∀ w2, A r.2 w2 → Q r.1 w2 := by
  have e : aP P E r = r := if_pos q
  rw [e] at h
  exact h
theorem ap_f {P : Prop} [Decidable P] (h : ∀ w2, A (aP P E r).2 w2 → Q (aP P E r).1 w2) (q : ¬ P) : ∀ w2, A none w2 → Q (.inr E) w2 := by
  have e : aP P E r = (.inr E, none) := if_neg q
  rw [e] at h
  exact h
theorem aq_t {P : Prop} [Decidable P] (h : ∀ w2, A (aQ P r s).2 w2 → Q (aQ P r s).1 w2) (q : P) : ∀ w2, A r.2 w2 → Q r.1 w2 := by
  have e : aQ P r s = r := if_pos q
  rw [e] at h
  exact h
theorem aq_f {P : Prop} [Decidable P] (h : ∀ w2, A (aQ P r s).2 w2 → Q (aQ P r s).1 w2) (q : ¬ P) : ∀ w2, A s.2 w2 → Q s.1 w2 := by
  have e : aQ P r s = s := if_neg q
  rw [e] at h
  exact h
end APS
/-- cells that an action leaves alone -/
def AF (w w' : PW) : Prop := ∀ c, ¬ (1 ≤ c ∧ c < 133) → ¬ (139 ≤ c ∧ c ≤ 142) → w'.2.2 c = w.2.2 c
def aH (H : Nat → Row) (n : Nat) (m : Row) : Option Row → Nat → Row
  | none => H
  | some _ => hPush H n m
def aN (n : Nat) : Option Row → Nat
  | none => n
  | some _ => hLen n
def aM (m : Row) : Option Row → Row
  | none => m
  | some x => x
def AO (w : PW) (H : Nat → Row) (n : Nat) (m : Row) (o : Option Row) (w2 : PW) : Prop := Sh w2 ∧ AF w w2 ∧ BR w2 1 (aM m o) ∧ HR w2 (aH H n m o) (aN n o)
theorem AO.no {w : PW} {H : Nat → Row} {n : Nat} {m : Row} (hs : Sh w) (hB : BR w 1 m) (hH : HR w H n) : AO w H n m none w := ⟨hs, fun _ _ _ => rfl, hB, hH⟩
theorem AO.yes {w w2 w3 : PW} {H : Nat → Row} {n : Nat} {m m' : Row} (s3 : Sh w3) (h2 : HR w2 (hPush H n m) (hLen n)) (k2 : ∀ c, c ≠ 27 → ¬ (29 ≤ c ∧ c < 133) → w2.2.2 c = w.2.2 c) (b3 : BR w3 1 m') (k3 : ∀ c, ¬ (1 ≤ c ∧ c < 14) → w3.2.2 c = w2.2.2 c) : AO w H n m (some m') w3 :=
  ⟨s3, fun c h _ => by rw [k3 c (by omega), k2 c (by omega) (by omega)], b3, h2.cells (fun c hc => k3 c (by omega))⟩
/-- one number of a row changed -/
def rOne (m : Row) (J : Nat) (z : Int) : Row := fun j => if j = J then z else m j
def oneJ (f k J : Nat) : Prop := (f = 0 ∧ (k = 2 ∨ k = 3) ∧ J = k) ∨ (f = 8 ∧ k = 0 ∧ J = 6) ∨ (f = 1 ∧ k < 12 ∧ J = 11 + 5 * k) ∨ (f = 2 ∧ k < 12 ∧ J = 12 + 5 * k)
theorem rOne_ok {m : Row} {J : Nat} {z : Int} (h : RowOK m) (hj : J = 2 ∨ J = 3 ∨ J = 6 ∨ (∃ k, k < 12 ∧ (J = 11 + 5 * k ∨ J = 12 + 5 * k))) (z2 : J = 2 → 0 ≤ z ∧ z ≤ 3) (z3 : J = 3 → 1 ≤ z ∧ z ≤ 4) (z6 : J = 6 → 0 ≤ z ∧ z < m 1) (zp : ∀ k, J = 11 + 5 * k → 0 ≤ z ∧ z < 24) (zr : ∀ k, J = 12 + 5 * k → 1 ≤ z ∧ z ≤ 12) : RowOK (rOne m J z) := by
  have hb : J = 2 ∨ J = 3 ∨ J = 6 ∨ (11 ≤ J ∧ J < 71) := by
    rcases hj with a | a | a | ⟨k, a, b⟩ <;> omega
  have hO : ∀ j, j ≠ J → rOne m J z j = m j := fun j hj => if_neg hj
  have hE : rOne m J z J = z := if_pos rfl
  have e0 : rOne m J z 0 = m 0 := hO 0 (by omega)
  have e1 : rOne m J z 1 = m 1 := hO 1 (by omega)
  have e4 : rOne m J z 4 = m 4 := hO 4 (by omega)
  have e5 : rOne m J z 5 = m 5 := hO 5 (by omega)
  have e8 : rOne m J z 8 = m 8 := hO 8 (by omega)
  have e9 : rOne m J z 9 = m 9 := hO 9 (by omega)
  have hN := ok_N (m' := rOne m J z) h e0 e1 e5 (fun i k _ _ => hO _ (by omega))
  have hP := ok_P (m' := rOne m J z) h e0 e1 e4 (fun u s _ _ => hO _ (by omega))
  refine ⟨by rw [e0]; exact h.s, by rw [e1]; exact h.u, ?_, ?_, by rw [e4]; exact h.t, by rw [e5]; exact h.n, ?_, by rw [hO 7 (by omega), e0]; exact h.ps, by rw [e8]; exact h.pt, by rw [e9, e8]; exact h.pp, by rw [hO 10 (by omega), e9]; exact h.pb, fun t ht => ?_, hN, hP⟩
  · by_cases q : J = 2
    · rw [← q, hE]; exact z2 q
    · rw [hO 2 (fun e => q e.symm)]; exact h.g
  · by_cases q : J = 3
    · rw [← q, hE]; exact z3 q
    · rw [hO 3 (fun e => q e.symm)]; exact h.v
  · rw [e1]
    by_cases q : J = 6
    · rw [← q, hE]; exact z6 q
    · rw [hO 6 (fun e => q e.symm)]; exact h.pu
  · rw [e4] at ht
    obtain ⟨t0, t1, t2, t3, t4⟩ := h.T ht
    have h4 := h.t
    rw [e8, e9]
    have r2 : rT (rOne m J z) t 2 = rT m t 2 := hO _ (by rcases hj with a | a | a | ⟨k, a, b⟩ <;> omega)
    have r3 : rT (rOne m J z) t 3 = rT m t 3 := hO _ (by rcases hj with a | a | a | ⟨k, a, b⟩ <;> omega)
    have r4 : rT (rOne m J z) t 4 = rT m t 4 := hO _ (by rcases hj with a | a | a | ⟨k, a, b⟩ <;> omega)
    rw [r2, r3, r4]
    refine ⟨?_, ?_, t2, t3, t4⟩
    · by_cases q : J = 11 + 5 * t
      · have : rT (rOne m J z) t 0 = z := by show rOne m J z (11 + 5 * t + 0) = z; rw [Nat.add_zero, ← q]; exact hE
        rw [this]; exact zp t q
      · have : rT (rOne m J z) t 0 = rT m t 0 := hO _ (by omega)
        rw [this]; exact t0
    · by_cases q : J = 12 + 5 * t
      · have : rT (rOne m J z) t 1 = z := by show rOne m J z (11 + 5 * t + 1) = z; rw [show 11 + 5 * t + 1 = J from by omega]; exact hE
        rw [this]; exact zr t q
      · have : rT (rOne m J z) t 1 = rT m t 1 := hO _ (by omega)
        rw [this]; exact t1
theorem brOne {w w' : PW} {b f k J : Nat} {m : Row} {z : Int} (hB : BR w b m) (hs : Sh w) (hJ : oneJ f k J) (hR : RowOK (rOne m J z)) (hz : bd z) (hl : slt (tb (b + f)) k) (e : w' = sI w (b + f) k z) : Sh w' ∧ BR w' b (rOne m J z) ∧ ∀ c, c ≠ b + f → w'.2.2 c = w.2.2 c := by
  have a0 := bx_lt hB.bx
  have hf : f < 9 := by unfold oneJ at hJ; omega
  obtain ⟨s1, g, l, k1⟩ := stI e hs (by omega) hl hz
  have hO : ∀ j, j ≠ J → rOne m J z j = m j := fun j hj => if_neg hj
  have hE : rOne m J z J = z := if_pos rfl
  have hn : ∀ c j, ¬ (c = b + f ∧ j = k) → gI w' c j = gI w c j := fun c j q => by rw [g, if_neg q]
  have hy : gI w' (b + f) k = z := by rw [g, if_pos ⟨rfl, rfl⟩]
  have hJ2 := hJ
  unfold oneJ at hJ2
  have e0 : rOne m J z 0 = m 0 := hO 0 (by omega)
  have e1 : rOne m J z 1 = m 1 := hO 1 (by omega)
  have e4 : rOne m J z 4 = m 4 := hO 4 (by omega)
  have e5 : rOne m J z 5 = m 5 := hO 5 (by omega)
  have e9 : rOne m J z 9 = m 9 := hO 9 (by omega)
  refine ⟨s1, ⟨hB.bx, hR, ⟨?_, ?_, ?_, ?_, ?_⟩, fun t ht => ?_, ?_, fun i hi => ?_, ⟨?_, ?_, ?_, ?_, ?_⟩, fun i hi hi2 => ?_, fun j s hj hs9 => ?_⟩, k1⟩
  · rw [hn _ _ (by omega), e0]; exact hB.s
  · rw [hn _ _ (by omega), e1]; exact hB.u
  · by_cases q : J = 2
    · have q1 : f = 0 := by omega
      have q2 : k = 2 := by omega
      rw [← q, hE]
      rw [q1, q2] at hy
      rw [q]; exact hy
    · rw [hn _ _ (by omega), hO 2 (by omega)]; exact hB.g
  · by_cases q : J = 3
    · have q1 : f = 0 := by omega
      have q2 : k = 3 := by omega
      rw [← q, hE]
      rw [q1, q2] at hy
      rw [q]; exact hy
    · rw [hn _ _ (by omega), hO 3 (by omega)]; exact hB.v
  · rw [hn _ _ (by omega), e4]; exact hB.t
  · rw [e4] at ht
    obtain ⟨t0, t1, t2, t3, t4⟩ := hB.T ht
    have r2 : rT (rOne m J z) t 2 = rT m t 2 := hO _ (by omega)
    have r3 : rT (rOne m J z) t 3 = rT m t 3 := hO _ (by omega)
    have r4 : rT (rOne m J z) t 4 = rT m t 4 := hO _ (by omega)
    rw [r2, r3, r4, hn (b + 9) _ (by omega), hn (b + 10) _ (by omega), hn (b + 11) _ (by omega)]
    refine ⟨?_, ?_, t2, t3, t4⟩
    · by_cases q : J = 11 + 5 * t
      · have : rT (rOne m J z) t 0 = z := by show rOne m J z (11 + 5 * t + 0) = z; rw [Nat.add_zero, ← q]; exact hE
        have q1 : f = 1 := by omega
        have q2 : k = t := by omega
        rw [q1, q2] at hy
        rw [this]; exact hy
      · have : rT (rOne m J z) t 0 = rT m t 0 := hO _ (by omega)
        rw [this, hn _ _ (by omega)]; exact t0
    · by_cases q : J = 12 + 5 * t
      · have : rT (rOne m J z) t 1 = z := by show rOne m J z (11 + 5 * t + 1) = z; rw [show 11 + 5 * t + 1 = J from by omega]; exact hE
        have q1 : f = 2 := by omega
        have q2 : k = t := by omega
        rw [q1, q2] at hy
        rw [this]; exact hy
      · have : rT (rOne m J z) t 1 = rT m t 1 := hO _ (by omega)
        rw [this, hn _ _ (by omega)]; exact t1
  · rw [hn _ _ (by omega), e5]; exact hB.n
  · rw [e5] at hi
    have := hB.N hi
    have r : ∀ k, rN (rOne m J z) i k = rN m i k := fun k => hO _ (by omega)
    rw [r, r, r, hn (b + 5) _ (by omega), hn (b + 6) _ (by omega), hn (b + 7) _ (by omega)]
    exact this
  · by_cases q : J = 6
    · have q1 : f = 8 := by omega
      have q2 : k = 0 := by omega
      rw [← q, hE]
      rw [q1, q2] at hy
      exact hy
    · rw [hn _ _ (by omega), hO 6 (by omega)]; exact hB.pu
  · rw [hn _ _ (by omega), hO 7 (by omega)]; exact hB.ps
  · rw [hn _ _ (by omega), hO 8 (by omega)]; exact hB.pt
  · rw [hn _ _ (by omega), e9]; exact hB.pp
  · rw [hn _ _ (by omega), hO 10 (by omega)]; exact hB.pb
  · rw [e9] at hi2
    rw [hn _ _ (by omega), hO _ (by omega)]
    exact hB.M hi hi2
  · rw [l, hB.P hj hs9]
    unfold rTr rPin
    rw [e0, e1, e4, hO _ (by omega)]

