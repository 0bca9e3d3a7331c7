/-! SOUNDNESS, 2: the world -/
def mE (ad : Nat → Nat) (cy : Nat → ClassId) (e : va_E) : va_E := match e with
  | .inr (c, fs) => .inr (c, fs.map (mV ad))
  | .inl (t, n, .inr (.inr (.inr (.inr f)))) => .inl (cy t, n, .inr (.inr (.inr (.inr (fun i => (f i).map ad)))))
  | .inl (t, n, .inl f) => .inl (cy t, n, .inl f)
  | .inl (t, n, .inr (.inl f)) => .inl (cy t, n, .inr (.inl f))
  | .inl (t, n, .inr (.inr (.inl f))) => .inl (cy t, n, .inr (.inr (.inl f)))
  | .inl (t, n, .inr (.inr (.inr (.inl f)))) => .inl (cy t, n, .inr (.inr (.inr (.inl f))))
def mW (ad : Nat → Nat) (cy : Nat → ClassId) (w : PW) : va_W := (List.range w.1).map (fun r => (ad r, mE ad cy (w.2.2 r)))
theorem mW_at {ad : Nat → Nat} {cy : Nat → ClassId} {w : PW} {r : Nat} (h : r < w.1) : (mW ad cy w)[r]? = some (ad r, mE ad cy (w.2.2 r)) := by
  unfold mW
  rw [List.getElem?_map, List.getElem?_range h]
  rfl
theorem mW_len {ad : Nat → Nat} {cy : Nat → ClassId} {w : PW} : (mW ad cy w).length = w.1 := by
  unfold mW; simp
theorem mW_set {ad : Nat → Nat} {cy : Nat → ClassId} {w : PW} {r : Nat} (h : r < w.1) (e : va_E) : (mW ad cy w).set r (ad r, mE ad cy e) = mW ad cy (pup w r e) := by
  apply List.ext_getElem?
  intro k
  by_cases hk : k < w.1
  · by_cases hkr : k = r
    · subst hkr
      rw [List.getElem?_set_self (by rw [mW_len]; exact hk), mW_at (w := pup w k e) hk]
      simp [pup, va_up]
    · rw [List.getElem?_set_ne (Ne.symm hkr), mW_at hk, mW_at (w := pup w r e) hk]
      simp [pup, va_up, hkr]
  · rw [List.getElem?_eq_none (by rw [List.length_set, mW_len]; omega), List.getElem?_eq_none (by rw [mW_len]; show w.1 ≤ k; omega)]
theorem mW_new {ad : Nat → Nat} {cy : Nat → ClassId} {w : PW} {n : Nat} {e : va_E} : mW ad cy w ++ [(ad w.1, mE ad cy e)] = mW ad cy (pnw w n e) := by
  apply List.ext_getElem?
  intro k
  rcases Nat.lt_trichotomy k w.1 with hk | hk | hk
  · rw [List.getElem?_append_left (by rw [mW_len]; exact hk), mW_at hk, mW_at (w := pnw w n e) (Nat.lt_succ_of_lt hk)]
    have : k ≠ w.1 := by omega
    simp [pnw, va_up, this]
  · subst hk
    rw [List.getElem?_append_right (by rw [mW_len]; omega), mW_len, mW_at (w := pnw w n e) (Nat.lt_succ_self _)]
    simp [pnw, va_up]
  · rw [List.getElem?_eq_none (by rw [List.length_append, mW_len]; simp; omega), List.getElem?_eq_none (by rw [mW_len]; show w.1 + 1 ≤ k; omega)]
/-- the types of the arrays, by the pure numbers of their classes -/
def tyA : List FieldType := [.int, .long, .char, .boolean, .byte, .byte, .object "PinBarrel$Box"]
def ptys (cy : Nat → ClassId) : List (ClassId × FieldType) := [(cy 0, .int), (cy 1, .long), (cy 2, .char), (cy 3, .boolean), (cy 4, .byte), (cy 5, .byte), (cy 6, .object "PinBarrel$Box")]
/-- what is fixed for a whole run: its start s0, where the worlds' cells begin, the places of names, the script -/
def pA (z n0 : Nat) : Nat → Prop := fun q => z ≤ q ∧ (q < z + pNA ∨ n0 ≤ q)
def pFix (l : Launch) (D : va_G) (cy : Nat → ClassId) (sa : Nat → Nat) (b Ls z : Nat) (xs : Nat → Int32) (s0 : State) (a0 : Array Value) : Prop :=
  (∀ w ∈ lw_tbl, w.before a0 s0 = true) ∧ va_K D vwCl (ptys cy) s0 ∧ va_X b Ls xs s0 s0.heap ∧ b < s0.heap.size ∧ (¬ pA z s0.heap.size b ∧ z ≤ s0.heap.size) ∧
  (∀ (i : Nat) (q : String × Nat × String), sOw[i]? = some q → vk_R q.1 q.2.1 q.2.2 (sa i) s0)
theorem pad_lt {z : Nat} {sa : Nat → Nat} {b r : Nat} (h : r < pSB) : pad z sa b r = z + r := if_pos h
theorem pD {z n0 : Nat} {sa : Nat → Nat} {b : Nat} {cy : Nat → ClassId} {w : PW} (h : w.1 ≤ pNA) : va_D (pA z n0) (mW (pad z sa b) cy w) := by
  have lt : ∀ (i : Nat) (q : Nat × va_E), (mW (pad z sa b) cy w)[i]? = some q → i < w.1 ∧ q.1 = z + i := by
    intro i q hq
    have hi : i < w.1 := by
      have := (List.getElem?_eq_some_iff.mp hq).1
      rwa [mW_len] at this
    rw [mW_at hi] at hq
    cases hq
    exact ⟨hi, pad_lt (Nat.lt_of_lt_of_le hi (Nat.le_trans h (by decide)))⟩
  refine ⟨fun i j p q hp hq e => ?_, fun k q hq => ?_⟩
  · have h1 := lt i p hp
    have h2 := lt j q hq
    rw [h1.2, h2.2] at e
    omega
  · have h1 := lt k q hq
    show z ≤ q.1 ∧ (q.1 < z + pNA ∨ n0 ≤ q.1)
    rw [h1.2]
    exact ⟨Nat.le_add_right _ _, Or.inl (Nat.add_lt_add_left (Nat.lt_of_lt_of_le h1.1 h) z)⟩
