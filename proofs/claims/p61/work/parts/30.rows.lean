/-! ROWS: the model's row of numbers, and a box of the class that holds the same -/
abbrev Row : Type := Nat → Int
def rPin (m : Row) (u s t : Nat) : Bool := tI (m (251 + 64 * u + s)) t
def rT (m : Row) (t k : Nat) : Int := m (11 + 5 * t + k)
def rN (m : Row) (i k : Nat) : Int := m (71 + 3 * i + k)
def RowOK (m : Row) : Prop :=
  (8 ≤ m 0 ∧ m 0 ≤ 64) ∧ (1 ≤ m 1 ∧ m 1 ≤ 3) ∧ (0 ≤ m 2 ∧ m 2 ≤ 3) ∧ (1 ≤ m 3 ∧ m 3 ≤ 4) ∧ (0 ≤ m 4 ∧ m 4 ≤ 12) ∧ (0 ≤ m 5 ∧ m 5 ≤ 60) ∧ (0 ≤ m 6 ∧ m 6 < m 1) ∧ (0 ≤ m 7 ∧ m 7 < m 0) ∧ (0 ≤ m 8 ∧ m 8 ≤ 100200) ∧ (0 ≤ m 9 ∧ m 9 ≤ 12 * m 8 + 12) ∧ (0 ≤ m 10 ∧ m 10 ≤ m 9) ∧
  (∀ t : Nat, (t : Int) < m 4 → (0 ≤ rT m t 0 ∧ rT m t 0 < 24) ∧ (1 ≤ rT m t 1 ∧ rT m t 1 ≤ 12) ∧ (0 ≤ rT m t 2 ∧ rT m t 2 ≤ m 9) ∧ (0 ≤ rT m t 3 ∧ rT m t 3 ≤ m 9) ∧ (-1 ≤ rT m t 4 ∧ rT m t 4 ≤ m 8)) ∧
  (∀ i : Nat, (i : Int) < m 5 → (0 ≤ rN m i 0 ∧ rN m i 0 < m 1) ∧ (0 ≤ rN m i 1 ∧ rN m i 1 < m 0) ∧ (0 ≤ rN m i 2 ∧ rN m i 2 < 24)) ∧
  (∀ u s : Nat, (u : Int) < m 1 → (s : Int) < m 0 → bd (m (251 + 64 * u + s)) ∧ ∀ t, t < 32 → rPin m u s t = true → (t : Int) < m 4)
section ROK
variable {m : Row}
theorem RowOK.s (h : RowOK m) : 8 ≤ m 0 ∧ m 0 ≤ 64 := h.1
theorem RowOK.u (h : RowOK m) : 1 ≤ m 1 ∧ m 1 ≤ 3 := h.2.1
theorem RowOK.g (h : RowOK m) : 0 ≤ m 2 ∧ m 2 ≤ 3 := h.2.2.1
theorem RowOK.v (h : RowOK m) : 1 ≤ m 3 ∧ m 3 ≤ 4 := h.2.2.2.1
theorem RowOK.t (h : RowOK m) : 0 ≤ m 4 ∧ m 4 ≤ 12 := h.2.2.2.2.1
theorem RowOK.n (h : RowOK m) : 0 ≤ m 5 ∧ m 5 ≤ 60 := h.2.2.2.2.2.1
theorem RowOK.pu (h : RowOK m) : 0 ≤ m 6 ∧ m 6 < m 1 := h.2.2.2.2.2.2.1
theorem RowOK.ps (h : RowOK m) : 0 ≤ m 7 ∧ m 7 < m 0 := h.2.2.2.2.2.2.2.1
theorem RowOK.pt (h : RowOK m) : 0 ≤ m 8 ∧ m 8 ≤ 100200 := h.2.2.2.2.2.2.2.2.1
theorem RowOK.pp (h : RowOK m) : 0 ≤ m 9 ∧ m 9 ≤ 12 * m 8 + 12 := h.2.2.2.2.2.2.2.2.2.1
theorem RowOK.pb (h : RowOK m) : 0 ≤ m 10 ∧ m 10 ≤ m 9 := h.2.2.2.2.2.2.2.2.2.2.1
theorem RowOK.T (h : RowOK m) {t : Nat} (ht : (t : Int) < m 4) : (0 ≤ rT m t 0 ∧ rT m t 0 < 24) ∧ (1 ≤ rT m t 1 ∧ rT m t 1 ≤ 12) ∧ (0 ≤ rT m t 2 ∧ rT m t 2 ≤ m 9) ∧ (0 ≤ rT m t 3 ∧ rT m t 3 ≤ m 9) ∧ (-1 ≤ rT m t 4 ∧ rT m t 4 ≤ m 8) := h.2.2.2.2.2.2.2.2.2.2.2.1 t ht
theorem RowOK.N (h : RowOK m) {i : Nat} (hi : (i : Int) < m 5) : (0 ≤ rN m i 0 ∧ rN m i 0 < m 1) ∧ (0 ≤ rN m i 1 ∧ rN m i 1 < m 0) ∧ (0 ≤ rN m i 2 ∧ rN m i 2 < 24) := h.2.2.2.2.2.2.2.2.2.2.2.2.1 i hi
theorem RowOK.P (h : RowOK m) {u s : Nat} (hu : (u : Int) < m 1) (hs : (s : Int) < m 0) : bd (m (251 + 64 * u + s)) ∧ ∀ t, t < 32 → rPin m u s t = true → (t : Int) < m 4 := h.2.2.2.2.2.2.2.2.2.2.2.2.2 u s hu hs
/-- a track's pins, by its number -/
def rTr (m : Row) (j s : Nat) : Bool := decide (j < (m 1).toNat * (m 4).toNat) && (decide (s < (m 0).toNat) && rPin m (j % (m 1).toNat) s (j / (m 1).toNat))
theorem rTr_ut (h : RowOK m) {u t s : Nat} (hu : (u : Int) < m 1) : rTr m ((m 1).toNat * t + u) s = (decide ((t : Int) < m 4) && (decide ((s : Int) < m 0) && rPin m u s t)) := by
  have h1 := h.u
  have h2 := h.t
  have h3 := h.s
  have hU : u < (m 1).toNat := by omega
  unfold rTr
  rw [Nat.mul_add_mod, Nat.mod_eq_of_lt hU, Nat.mul_add_div (by omega), Nat.div_eq_of_lt hU, Nat.add_zero]
  have e1 : decide ((m 1).toNat * t + u < (m 1).toNat * (m 4).toNat) = decide ((t : Int) < m 4) := by
    refine decide_eq_decide.mpr ⟨fun q => ?_, fun q => ?_⟩
    · have : (m 1).toNat * t < (m 1).toNat * (m 4).toNat := by omega
      have := Nat.lt_of_mul_lt_mul_left this
      omega
    · have q2 : t + 1 ≤ (m 4).toNat := by omega
      have := Nat.mul_le_mul_left (m 1).toNat q2
      rw [Nat.mul_add, Nat.mul_one] at this
      omega
  have e2 : decide (s < (m 0).toNat) = decide ((s : Int) < m 0) := decide_eq_decide.mpr ⟨fun q => by omega, fun q => by omega⟩
  rw [e1, e2]
end ROK
/-- a box of the class that holds a row -/
def BR (w : PW) (b : Nat) (m : Row) : Prop := bx b ∧ RowOK m ∧
  (gI w b 0 = m 0 ∧ gI w b 1 = m 1 ∧ gI w b 2 = m 2 ∧ gI w b 3 = m 3 ∧ gI w b 4 = m 4) ∧
  (∀ t : Nat, (t : Int) < m 4 → gI w (b + 1) t = rT m t 0 ∧ gI w (b + 2) t = rT m t 1 ∧ gI w (b + 9) t = rT m t 2 ∧ gI w (b + 10) t = rT m t 3 ∧ gI w (b + 11) t = rT m t 4) ∧
  gI w (b + 4) 0 = m 5 ∧ (∀ i : Nat, (i : Int) < m 5 → gI w (b + 5) i = rN m i 0 ∧ gI w (b + 6) i = rN m i 1 ∧ gI w (b + 7) i = rN m i 2) ∧
  (gI w (b + 8) 0 = m 6 ∧ gI w (b + 8) 1 = m 7 ∧ gI w (b + 8) 2 = m 8 ∧ gI w (b + 8) 3 = m 9 ∧ gI w (b + 8) 4 = m 10) ∧
  (∀ k : Nat, k < 400 → ((k / 4 : Nat) : Int) < m 9 → gI w (b + 12) k = m (443 + k)) ∧
  (∀ j s : Nat, j < 36 → s < 64 → tL (gL w (b + 3) j) s = rTr m j s)
section BRS
variable {w w' : PW} {b : Nat} {m : Row}
theorem BR.bx (h : BR w b m) : bx b := h.1
theorem BR.ok (h : BR w b m) : RowOK m := h.2.1
theorem BR.s (h : BR w b m) : gI w b 0 = m 0 := h.2.2.1.1
theorem BR.u (h : BR w b m) : gI w b 1 = m 1 := h.2.2.1.2.1
theorem BR.g (h : BR w b m) : gI w b 2 = m 2 := h.2.2.1.2.2.1
theorem BR.v (h : BR w b m) : gI w b 3 = m 3 := h.2.2.1.2.2.2.1
theorem BR.t (h : BR w b m) : gI w b 4 = m 4 := h.2.2.1.2.2.2.2
theorem BR.T (h : BR w b m) {t : Nat} (ht : (t : Int) < m 4) : gI w (b + 1) t = rT m t 0 ∧ gI w (b + 2) t = rT m t 1 ∧ gI w (b + 9) t = rT m t 2 ∧ gI w (b + 10) t = rT m t 3 ∧ gI w (b + 11) t = rT m t 4 := h.2.2.2.1 t ht
theorem BR.n (h : BR w b m) : gI w (b + 4) 0 = m 5 := h.2.2.2.2.1
theorem BR.N (h : BR w b m) {i : Nat} (hi : (i : Int) < m 5) : gI w (b + 5) i = rN m i 0 ∧ gI w (b + 6) i = rN m i 1 ∧ gI w (b + 7) i = rN m i 2 := h.2.2.2.2.2.1 i hi
theorem BR.pu (h : BR w b m) : gI w (b + 8) 0 = m 6 := h.2.2.2.2.2.2.1.1
theorem BR.ps (h : BR w b m) : gI w (b + 8) 1 = m 7 := h.2.2.2.2.2.2.1.2.1
theorem BR.pt (h : BR w b m) : gI w (b + 8) 2 = m 8 := h.2.2.2.2.2.2.1.2.2.1
theorem BR.pp (h : BR w b m) : gI w (b + 8) 3 = m 9 := h.2.2.2.2.2.2.1.2.2.2.1
theorem BR.pb (h : BR w b m) : gI w (b + 8) 4 = m 10 := h.2.2.2.2.2.2.1.2.2.2.2
theorem BR.M (h : BR w b m) {k : Nat} (hk : k < 400) (h2 : ((k / 4 : Nat) : Int) < m 9) : gI w (b + 12) k = m (443 + k) := h.2.2.2.2.2.2.2.1 k hk h2
theorem BR.P (h : BR w b m) {j s : Nat} (hj : j < 36) (hs : s < 64) : tL (gL w (b + 3) j) s = rTr m j s := h.2.2.2.2.2.2.2.2 j s hj hs
theorem BR.cells (h : BR w b m) (hc : ∀ k, k < 13 → w'.2.2 (b + k) = w.2.2 (b + k)) : BR w' b m := by
  have c0 : w'.2.2 b = w.2.2 b := hc 0 (by decide)
  obtain ⟨h1, h2, ⟨a1, a2, a3, a4, a5⟩, h4, h5, h6, ⟨p1, p2, p3, p4, p5⟩, h8, h9⟩ := h
  refine ⟨h1, h2, ⟨?_, ?_, ?_, ?_, ?_⟩, fun t ht => ?_, ?_, fun i hi => ?_, ⟨?_, ?_, ?_, ?_, ?_⟩, fun k hk hk2 => ?_, fun j s hj hs => ?_⟩
  · rw [gI_cell c0]; exact a1
  · rw [gI_cell c0]; exact a2
  · rw [gI_cell c0]; exact a3
  · rw [gI_cell c0]; exact a4
  · rw [gI_cell c0]; exact a5
  · rw [gI_cell (hc 1 (by decide)), gI_cell (hc 2 (by decide)), gI_cell (hc 9 (by decide)), gI_cell (hc 10 (by decide)), gI_cell (hc 11 (by decide))]; exact h4 t ht
  · rw [gI_cell (hc 4 (by decide))]; exact h5
  · rw [gI_cell (hc 5 (by decide)), gI_cell (hc 6 (by decide)), gI_cell (hc 7 (by decide))]; exact h6 i hi
  · rw [gI_cell (hc 8 (by decide))]; exact p1
  · rw [gI_cell (hc 8 (by decide))]; exact p2
  · rw [gI_cell (hc 8 (by decide))]; exact p3
  · rw [gI_cell (hc 8 (by decide))]; exact p4
  · rw [gI_cell (hc 8 (by decide))]; exact p5
  · rw [gI_cell (hc 12 (by decide))]; exact h8 k hk hk2
  · rw [gL_cell (hc 3 (by decide))]; exact h9 j s hj hs
/-- what a track number is, and its pins -/
theorem BR.trk (h : BR w b m) {u t : Nat} (hu : (u : Int) < m 1) : m 1 * (t : Int) + (u : Int) = (((m 1).toNat * t + u : Nat) : Int) := by
  have h1 := h.ok.u
  have e : m 1 = ((m 1).toNat : Int) := by omega
  rw [Int.natCast_add, Int.natCast_mul, ← e]
theorem trk_lt (h : RowOK m) {u t : Nat} (hu : (u : Int) < m 1) (ht : t < 12) : (m 1).toNat * t + u < 36 ∧ (m 1).toNat * t + u < (m 1).toNat * 12 := by
  have h1 := h.u
  have q2 : t + 1 ≤ 12 := ht
  have := Nat.mul_le_mul_left (m 1).toNat q2
  rw [Nat.mul_add, Nat.mul_one] at this
  omega
theorem BR.lPj (h : BR w b m) {j s : Nat} (hs : s < 64) : tL (lP w b (j : Int)) s = rTr m j s := by
  unfold lP
  by_cases hj : j < 36
  · rw [if_pos ⟨by omega, by omega⟩, Int.toNat_natCast]
    exact h.P hj hs
  · rw [if_neg (by omega), tL_0]
    unfold rTr
    have h1 := h.ok.u
    have h2 := h.ok.t
    have : (m 1).toNat * (m 4).toNat ≤ 3 * 12 := Nat.mul_le_mul (by omega) (by omega)
    rw [decide_eq_false (by omega), Bool.false_and]
theorem BR.lPneg {x : Int} (hx : x < 0) : lP w b x = 0 := by
  unfold lP
  rw [if_neg (by omega)]
theorem BR.bits (h : BR w b m) {u t s : Nat} (hu : (u : Int) < m 1) (hs : s < 64) : tL (lP w b (m 1 * (t : Int) + (u : Int))) s = (decide ((t : Int) < m 4) && (decide ((s : Int) < m 0) && rPin m u s t)) := by
  rw [h.trk hu, h.lPj hs, rTr_ut h.ok hu]
theorem BR.lPb (h : BR w b m) {u t : Nat} (hu : (u : Int) < m 1) (ht : t < 12) : bd (m 1 * (t : Int) + (u : Int)) ∧ 0 ≤ m 1 * (t : Int) + (u : Int) ∧ m 1 * (t : Int) + (u : Int) < 36 := by
  have := trk_lt h.ok hu ht
  rw [h.trk hu]
  exact ⟨⟨by omega, by omega⟩, by omega, by omega⟩
theorem BR.cntP (h : BR w b m) {u t : Nat} (hu : (u : Int) < m 1) (ht : (t : Int) < m 4) : cnt (tL (lP w b (m 1 * (t : Int) + (u : Int)))) 64 = cnt (fun s => rPin m u s t) (m 0).toNat := by
  have h3 := h.ok.s
  rw [show (64 : Nat) = (m 0).toNat + (64 - (m 0).toNat) from by omega, cnt_split, cnt_zero (n := 64 - (m 0).toNat), Nat.add_zero]
  · refine cnt_congr (fun s hs => ?_)
    rw [h.bits hu (by omega), decide_eq_true ht, decide_eq_true (by omega)]; rfl
  · intro s hs
    rw [h.bits hu (by omega), decide_eq_false (p := (((m 0).toNat + s : Nat) : Int) < m 0) (by omega), Bool.false_and, Bool.and_false]
end BRS

