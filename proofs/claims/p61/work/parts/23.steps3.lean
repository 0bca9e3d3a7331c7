/-! STEPS, 3: what the printed theorems name -/
theorem tbC_0 : tb 0 = (0, 7, [some 1, some 14, some 27, some 133, some 134, some 135, some 137, some 139, none, none]) := rfl
theorem tbC_27 : tb 27 = (0, 1, [some 28, none, none]) := rfl
theorem tbC_28 : tb 28 = (6, 6, [some 29, some 42, some 55, some 68, some 81, some 94, some 107, some 120]) := rfl
theorem tbC_133 : tb 133 = (6, 6, [some 143, some 156]) := rfl
theorem tbC_134 : tb 134 = (1, 3, [some 2]) := rfl
theorem tbC_135 : tb 135 = (0, 4, [some 136, none, none, none, none, none]) := rfl
theorem tbC_136 : tb 136 = (1, 2, [some 700]) := rfl
theorem tbC_137 : tb 137 = (0, 6, [some 138, none]) := rfl
theorem tbC_138 : tb 138 = (1, 2, [some 400]) := rfl
theorem tbC_139 : tb 139 = (0, 5, [none, none, none, some 140, some 141, some 142]) := rfl
theorem tbC_140 : tb 140 = (1, 0, [some 60]) := rfl
theorem tbC_141 : tb 141 = (1, 0, [some 60]) := rfl
theorem tbC_142 : tb 142 = (3, 1, [some 36]) := rfl
theorem tlt (a : Nat) (h : Nat.blt a 182 = true) : a < 182 := Nat.le_of_ble_eq_true h
theorem bxc (b : Nat) (h : bxs.contains b = true) : bx b := List.contains_iff_mem.mp h
theorem bxr0 {b : Nat} (hb : bx b) : b ≠ 4242424 := by
  have := bx_lt hb
  omega
theorem slt_o {a ci k : Nat} {l : List (Option Nat)} (ht : tb a = (0, ci, l)) (hk : l[k]? = some none) : slt (tb a) k := by
  rw [ht]
  exact hk
theorem slt_a {a t k : Nat} {l : List (Option Nat)} (ht : tb a = (1, t, l)) : slt (tb a) k := by
  rw [ht]
  exact trivial
theorem bdZ (P : Prop) [Decidable P] : bd (if P then 1 else 0) := by
  by_cases h : P
  · rw [if_pos h]; exact ⟨by decide, by decide⟩
  · rw [if_neg h]; exact ⟨by decide, by decide⟩
theorem zor (P : Prop) [Decidable P] : (if P then (1 : Int) else 0) = 0 ∨ (if P then (1 : Int) else 0) = 1 := by
  by_cases h : P
  · rw [if_pos h]; exact Or.inr rfl
  · rw [if_neg h]; exact Or.inl rfl
theorem bd_max {x y : Int} (hx : bd x) (hy : bd y) : bd (max x y) := by
  have := hx.1; have := hx.2; have := hy.1; have := hy.2
  constructor <;> omega
theorem bd_min {x y : Int} (hx : bd x) (hy : bd y) : bd (min x y) := by
  have := hx.1; have := hx.2; have := hy.1; have := hy.2
  constructor <;> omega
theorem bdn {n : Nat} (hn : Nat.blt n 2147483648 = true) : bd (n : Int) := by
  have : n < 2147483648 := Nat.le_of_ble_eq_true hn
  exact ⟨by omega, by omega⟩
theorem bd_sl {r : Nat} (h : r < 38) : bd ((sTx.getD r []).length : Int) := by
  have := (sOw_ch r h).1
  exact ⟨by omega, by omega⟩
theorem bd_sc {r : Nat} {z : Int} (h : r < 38) (hz : 0 ≤ z ∧ z < (sTx.getD r []).length) : bd ((sTx.getD r []).getD z.toNat 0 : Int) := by
  have := (sOw_ch r h).2 _ (getD_mem (l := sTx.getD r []) (k := z.toNat) (by omega) 0)
  exact ⟨by omega, by omega⟩
theorem pst1_u {L L' : PL} {k : Nat} {v : Value} {o : Option Value} (ho : pc2 o = false) (hk : L.getD (k - 1) none = o) (hL : L.set k (some v) = L' := by rfl) : pst1 L k v = L' := by
  unfold pst1
  rw [hk, ho, if_neg (by decide)]
  exact hL
section PU
variable {L L' : PL} {S : List Value} {o : Option Value}
theorem pf_sti {k : Nat} {x : Int} (ho : pc2 o = false) (hk : L.getD (k - 1) none = o) (hL : L.set k (some (iv x)) = L') (hl : Nat.blt k L.length = true := by rfl) : pf (.istore k) L (iv x :: S) = some (2, L', S) := by
  show (if k < L.length then some (2, pst1 L k (iv x), S) else none) = _
  rw [if_pos (show k < L.length from Nat.le_of_ble_eq_true hl), pst1_u ho hk hL]
theorem pf_stin {k : Fin 4} {x : Int} (ho : pc2 o = false) (hk : L.getD ((k : Nat) - 1) none = o) (hL : L.set (k : Nat) (some (iv x)) = L') (hl : Nat.blt (k : Nat) L.length = true := by rfl) : pf (.istore_n k) L (iv x :: S) = some (1, L', S) := by
  show (if (k : Nat) < L.length then some (1, pst1 L k (iv x), S) else none) = _
  rw [if_pos (show (k : Nat) < L.length from Nat.le_of_ble_eq_true hl), pst1_u ho hk hL]
theorem pf_sta {k : Nat} {x : Nat} (ho : pc2 o = false) (hk : L.getD (k - 1) none = o) (hL : L.set k (some (.ref x)) = L') (hl : Nat.blt k L.length = true := by rfl) : pf (.astore k) L (.ref x :: S) = some (2, L', S) := by
  show (if k < L.length then some (2, pst1 L k (.ref x), S) else none) = _
  rw [if_pos (show k < L.length from Nat.le_of_ble_eq_true hl), pst1_u ho hk hL]
theorem pf_stan {k : Fin 4} {x : Nat} (ho : pc2 o = false) (hk : L.getD ((k : Nat) - 1) none = o) (hL : L.set (k : Nat) (some (.ref x)) = L') (hl : Nat.blt (k : Nat) L.length = true := by rfl) : pf (.astore_n k) L (.ref x :: S) = some (1, L', S) := by
  show (if (k : Nat) < L.length then some (1, pst1 L k (.ref x), S) else none) = _
  rw [if_pos (show (k : Nat) < L.length from Nat.le_of_ble_eq_true hl), pst1_u ho hk hL]
theorem pf_stl {k : Nat} {x : Int64} (ho : pc2 o = false) (hk : L.getD (k - 1) none = o) (hL : (L.set k (some (.long x))).set (k + 1) none = L') (hl : Nat.blt (k + 1) L.length = true := by rfl) : pf (.lstore k) L (.long x :: S) = some (2, L', S) := by
  show (if k + 1 < L.length then some (2, pst2 L k (.long x), S) else none) = _
  rw [if_pos (show k + 1 < L.length from Nat.le_of_ble_eq_true hl)]
  unfold pst2
  rw [pst1_u ho hk rfl, hL]
theorem pf_stln {k : Fin 4} {x : Int64} (ho : pc2 o = false) (hk : L.getD ((k : Nat) - 1) none = o) (hL : (L.set (k : Nat) (some (.long x))).set ((k : Nat) + 1) none = L') (hl : Nat.blt ((k : Nat) + 1) L.length = true := by rfl) : pf (.lstore_n k) L (.long x :: S) = some (1, L', S) := by
  show (if (k : Nat) + 1 < L.length then some (1, pst2 L k (.long x), S) else none) = _
  rw [if_pos (show (k : Nat) + 1 < L.length from Nat.le_of_ble_eq_true hl)]
  unfold pst2
  rw [pst1_u ho hk rfl, hL]
end PU
