/-! THE CLASS's FACE: texts written -/
/-- the writer holds a text -/
def WL (w : PW) (l : List Nat) : Prop := gI w 137 1 = (l.length : Nat) ∧ ∀ k, k < l.length → gI w 138 k = ((l.getD k 0 : Nat) : Int)
theorem WL.wr {w : PW} {l : List Nat} (h : WL w l) (h4 : l.length ≤ 400) : WR w (fun k => ((l.getD k 0 : Nat) : Int)) l.length := ⟨h.1, h4, h.2⟩
theorem gtD_l {l r : List Nat} {k : Nat} (h : k < l.length) : (l ++ r).getD k 0 = l.getD k 0 := by
  rw [List.getD_eq_getElem?_getD, List.getElem?_append_left h, ← List.getD_eq_getElem?_getD]
theorem gtD_e {l r : List Nat} {z : Nat} : (l ++ z :: r).getD l.length 0 = z := by
  rw [List.getD_eq_getElem?_getD, List.getElem?_append_right (Nat.le_refl _), Nat.sub_self]
  rfl
theorem take_s {l : List Nat} {i : Nat} (h : i < l.length) : l.take i ++ [l.getD i 0] = l.take (i + 1) := by
  rw [List.take_succ, List.getD_eq_getElem?_getD, List.getElem?_eq_getElem h]
  rfl
