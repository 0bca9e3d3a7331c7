/-! THE VIEW: memory of the pure worlds as whole numbers, after the constructors -/
abbrev Shp : Type := Nat × Nat × List (Option Nat)
/-- the shapes of the cells: objects with their fixed references, arrays with their lengths -/
def tbs : List Shp := [
  (0, 7, [some 1, some 14, some 27, some 133, some 134, some 135, some 137, some 139, none, none]),
  (0, 0, [none, none, none, none, none, some 2, some 3, some 4, some 5, some 9]),
  (1, 0, [some 12]),
  (1, 0, [some 12]),
  (3, 1, [some 36]),
  (0, 2, [none, some 6, some 7, some 8]),
  (1, 0, [some 60]),
  (1, 0, [some 60]),
  (1, 0, [some 60]),
  (0, 3, [none, none, none, none, none, some 10, some 11, some 12, some 13]),
  (1, 0, [some 12]),
  (1, 0, [some 12]),
  (1, 0, [some 12]),
  (1, 0, [some 400]),
  (0, 0, [none, none, none, none, none, some 15, some 16, some 17, some 18, some 22]),
  (1, 0, [some 12]),
  (1, 0, [some 12]),
  (3, 1, [some 36]),
  (0, 2, [none, some 19, some 20, some 21]),
  (1, 0, [some 60]),
  (1, 0, [some 60]),
  (1, 0, [some 60]),
  (0, 3, [none, none, none, none, none, some 23, some 24, some 25, some 26]),
  (1, 0, [some 12]),
  (1, 0, [some 12]),
  (1, 0, [some 12]),
  (1, 0, [some 400]),
  (0, 1, [some 28, none, none]),
  (6, 6, [some 29, some 42, some 55, some 68, some 81, some 94, some 107, some 120]),
  (0, 0, [none, none, none, none, none, some 30, some 31, some 32, some 33, some 37]),
  (1, 0, [some 12]),
  (1, 0, [some 12]),
  (3, 1, [some 36]),
  (0, 2, [none, some 34, some 35, some 36]),
  (1, 0, [some 60]),
  (1, 0, [some 60]),
  (1, 0, [some 60]),
  (0, 3, [none, none, none, none, none, some 38, some 39, some 40, some 41]),
  (1, 0, [some 12]),
  (1, 0, [some 12]),
  (1, 0, [some 12]),
  (1, 0, [some 400]),
  (0, 0, [none, none, none, none, none, some 43, some 44, some 45, some 46, some 50]),
  (1, 0, [some 12]),
  (1, 0, [some 12]),
  (3, 1, [some 36]),
  (0, 2, [none, some 47, some 48, some 49]),
  (1, 0, [some 60]),
  (1, 0, [some 60]),
  (1, 0, [some 60]),
  (0, 3, [none, none, none, none, none, some 51, some 52, some 53, some 54]),
  (1, 0, [some 12]),
  (1, 0, [some 12]),
  (1, 0, [some 12]),
  (1, 0, [some 400]),
  (0, 0, [none, none, none, none, none, some 56, some 57, some 58, some 59, some 63]),
  (1, 0, [some 12]),
  (1, 0, [some 12]),
  (3, 1, [some 36]),
  (0, 2, [none, some 60, some 61, some 62]),
  (1, 0, [some 60]),
  (1, 0, [some 60]),
  (1, 0, [some 60]),
  (0, 3, [none, none, none, none, none, some 64, some 65, some 66, some 67]),
  (1, 0, [some 12]),
  (1, 0, [some 12]),
  (1, 0, [some 12]),
  (1, 0, [some 400]),
  (0, 0, [none, none, none, none, none, some 69, some 70, some 71, some 72, some 76]),
  (1, 0, [some 12]),
  (1, 0, [some 12]),
  (3, 1, [some 36]),
  (0, 2, [none, some 73, some 74, some 75]),
  (1, 0, [some 60]),
  (1, 0, [some 60]),
  (1, 0, [some 60]),
  (0, 3, [none, none, none, none, none, some 77, some 78, some 79, some 80]),
  (1, 0, [some 12]),
  (1, 0, [some 12]),
  (1, 0, [some 12]),
  (1, 0, [some 400]),
  (0, 0, [none, none, none, none, none, some 82, some 83, some 84, some 85, some 89]),
  (1, 0, [some 12]),
  (1, 0, [some 12]),
  (3, 1, [some 36]),
  (0, 2, [none, some 86, some 87, some 88]),
  (1, 0, [some 60]),
  (1, 0, [some 60]),
  (1, 0, [some 60]),
  (0, 3, [none, none, none, none, none, some 90, some 91, some 92, some 93]),
  (1, 0, [some 12]),
  (1, 0, [some 12]),
  (1, 0, [some 12]),
  (1, 0, [some 400]),
  (0, 0, [none, none, none, none, none, some 95, some 96, some 97, some 98, some 102]),
  (1, 0, [some 12]),
  (1, 0, [some 12]),
  (3, 1, [some 36]),
  (0, 2, [none, some 99, some 100, some 101]),
  (1, 0, [some 60]),
  (1, 0, [some 60]),
  (1, 0, [some 60]),
  (0, 3, [none, none, none, none, none, some 103, some 104, some 105, some 106]),
  (1, 0, [some 12]),
  (1, 0, [some 12]),
  (1, 0, [some 12]),
  (1, 0, [some 400]),
  (0, 0, [none, none, none, none, none, some 108, some 109, some 110, some 111, some 115]),
  (1, 0, [some 12]),
  (1, 0, [some 12]),
  (3, 1, [some 36]),
  (0, 2, [none, some 112, some 113, some 114]),
  (1, 0, [some 60]),
  (1, 0, [some 60]),
  (1, 0, [some 60]),
  (0, 3, [none, none, none, none, none, some 116, some 117, some 118, some 119]),
  (1, 0, [some 12]),
  (1, 0, [some 12]),
  (1, 0, [some 12]),
  (1, 0, [some 400]),
  (0, 0, [none, none, none, none, none, some 121, some 122, some 123, some 124, some 128]),
  (1, 0, [some 12]),
  (1, 0, [some 12]),
  (3, 1, [some 36]),
  (0, 2, [none, some 125, some 126, some 127]),
  (1, 0, [some 60]),
  (1, 0, [some 60]),
  (1, 0, [some 60]),
  (0, 3, [none, none, none, none, none, some 129, some 130, some 131, some 132]),
  (1, 0, [some 12]),
  (1, 0, [some 12]),
  (1, 0, [some 12]),
  (1, 0, [some 400]),
  (6, 6, [some 143, some 156]),
  (1, 3, [some 2]),
  (0, 4, [some 136, none, none, none, none, none]),
  (1, 2, [some 700]),
  (0, 6, [some 138, none]),
  (1, 2, [some 400]),
  (0, 5, [none, none, none, some 140, some 141, some 142]),
  (1, 0, [some 60]),
  (1, 0, [some 60]),
  (3, 1, [some 36]),
  (0, 0, [none, none, none, none, none, some 144, some 145, some 146, some 147, some 151]),
  (1, 0, [some 12]),
  (1, 0, [some 12]),
  (3, 1, [some 36]),
  (0, 2, [none, some 148, some 149, some 150]),
  (1, 0, [some 60]),
  (1, 0, [some 60]),
  (1, 0, [some 60]),
  (0, 3, [none, none, none, none, none, some 152, some 153, some 154, some 155]),
  (1, 0, [some 12]),
  (1, 0, [some 12]),
  (1, 0, [some 12]),
  (1, 0, [some 400]),
  (0, 0, [none, none, none, none, none, some 157, some 158, some 159, some 160, some 164]),
  (1, 0, [some 12]),
  (1, 0, [some 12]),
  (3, 1, [some 36]),
  (0, 2, [none, some 161, some 162, some 163]),
  (1, 0, [some 60]),
  (1, 0, [some 60]),
  (1, 0, [some 60]),
  (0, 3, [none, none, none, none, none, some 165, some 166, some 167, some 168]),
  (1, 0, [some 12]),
  (1, 0, [some 12]),
  (1, 0, [some 12]),
  (1, 0, [some 400]),
  (0, 99, []),
  (0, 99, []),
  (0, 99, []),
  (0, 99, []),
  (0, 99, []),
  (0, 99, []),
  (0, 99, []),
  (0, 99, []),
  (0, 99, []),
  (0, 99, []),
  (0, 99, []),
  (0, 99, []),
  (0, 99, [])]
def bxs : List Nat := [1, 14, 29, 42, 55, 68, 81, 94, 107, 120, 143, 156]
def tb (a : Nat) : Shp := tbs.getD a (9, 9, [])
/-- the address of a box -/
def bx (b : Nat) : Prop := b ∈ bxs
theorem bx_all {P : Nat → Prop} (h : ∀ b ∈ bxs, P b) {b : Nat} (hb : bx b) : P b := h b hb
theorem bx_lt {b : Nat} (hb : bx b) : b + 12 < 182 := bx_all (P := fun b => b + 12 < 182) (by decide +kernel) hb
theorem tb0 {b : Nat} (hb : bx b) : tb b = (0, 0, [none, none, none, none, none, some (b + 1), some (b + 2), some (b + 3), some (b + 4), some (b + 8)]) := bx_all (P := fun b => tb b = (0, 0, [none, none, none, none, none, some (b + 1), some (b + 2), some (b + 3), some (b + 4), some (b + 8)])) (by decide +kernel) hb
theorem tb4 {b : Nat} (hb : bx b) : tb (b + 4) = (0, 2, [none, some (b + 5), some (b + 6), some (b + 7)]) := bx_all (P := fun b => tb (b + 4) = (0, 2, [none, some (b + 5), some (b + 6), some (b + 7)])) (by decide +kernel) hb
theorem tb8 {b : Nat} (hb : bx b) : tb (b + 8) = (0, 3, [none, none, none, none, none, some (b + 9), some (b + 10), some (b + 11), some (b + 12)]) := bx_all (P := fun b => tb (b + 8) = (0, 3, [none, none, none, none, none, some (b + 9), some (b + 10), some (b + 11), some (b + 12)])) (by decide +kernel) hb
theorem tb1 {b : Nat} (hb : bx b) : tb (b + 1) = (1, 0, [some 12]) := bx_all (P := fun b => tb (b + 1) = (1, 0, [some 12])) (by decide +kernel) hb
theorem tb2 {b : Nat} (hb : bx b) : tb (b + 2) = (1, 0, [some 12]) := bx_all (P := fun b => tb (b + 2) = (1, 0, [some 12])) (by decide +kernel) hb
theorem tb3 {b : Nat} (hb : bx b) : tb (b + 3) = (3, 1, [some 36]) := bx_all (P := fun b => tb (b + 3) = (3, 1, [some 36])) (by decide +kernel) hb
theorem tb5 {b : Nat} (hb : bx b) : tb (b + 5) = (1, 0, [some 60]) := bx_all (P := fun b => tb (b + 5) = (1, 0, [some 60])) (by decide +kernel) hb
theorem tb6 {b : Nat} (hb : bx b) : tb (b + 6) = (1, 0, [some 60]) := bx_all (P := fun b => tb (b + 6) = (1, 0, [some 60])) (by decide +kernel) hb
theorem tb7 {b : Nat} (hb : bx b) : tb (b + 7) = (1, 0, [some 60]) := bx_all (P := fun b => tb (b + 7) = (1, 0, [some 60])) (by decide +kernel) hb
theorem tb9 {b : Nat} (hb : bx b) : tb (b + 9) = (1, 0, [some 12]) := bx_all (P := fun b => tb (b + 9) = (1, 0, [some 12])) (by decide +kernel) hb
theorem tb10 {b : Nat} (hb : bx b) : tb (b + 10) = (1, 0, [some 12]) := bx_all (P := fun b => tb (b + 10) = (1, 0, [some 12])) (by decide +kernel) hb
theorem tb11 {b : Nat} (hb : bx b) : tb (b + 11) = (1, 0, [some 12]) := bx_all (P := fun b => tb (b + 11) = (1, 0, [some 12])) (by decide +kernel) hb
theorem tb12 {b : Nat} (hb : bx b) : tb (b + 12) = (1, 0, [some 400]) := bx_all (P := fun b => tb (b + 12) = (1, 0, [some 400])) (by decide +kernel) hb
/-! shapes -/
def shv (v : Value) : Option Nat := match v with
  | .int _ => none
  | .ref r => some r
  | _ => some 4242424
def shp (e : va_E) : Shp := match e with
  | .inr (c, fs) => (0, c, fs.map shv)
  | .inl (t, n, .inl _) => (1, t, [some n])
  | .inl (t, n, .inr (.inl _)) => (3, t, [some n])
  | .inl (t, n, .inr (.inr (.inl _))) => (4, t, [some n])
  | .inl (t, n, .inr (.inr (.inr (.inl _)))) => (5, t, [some n])
  | .inl (t, n, .inr (.inr (.inr (.inr f)))) => (6, t, (List.range n).map f)
def Sh (w : PW) : Prop := w.1 = pNA ∧ ∀ a, a < 182 → shp (w.2.2 a) = tb a
/-! whole numbers -/
abbrev bd (z : Int) : Prop := -2147483648 ≤ z ∧ z < 2147483648
abbrev iv (z : Int) : Value := .int (Int32.ofInt z)
theorem iv_toInt (x : Int32) : iv x.toInt = .int x := congrArg Value.int (Int32.ofInt_toInt x)
theorem toInt_iv {z : Int} (h : bd z) : (Int32.ofInt z).toInt = z := Int32.toInt_ofInt_of_le (by have := h.1; omega) (by have := h.2; omega)
theorem bd_toInt (x : Int32) : bd x.toInt := ⟨Int32.le_toInt x, Int32.toInt_lt x⟩
/-! the memory -/
def gI (w : PW) (a k : Nat) : Int := match w.2.2 a with
  | .inr (_, fs) => match fs[k]? with
    | some (.int x) => x.toInt
    | _ => 0
  | .inl (_, _, .inl f) => (f k).toInt
  | _ => 0
def gL (w : PW) (a k : Nat) : Int64 := match w.2.2 a with
  | .inl (_, _, .inr (.inl f)) => f k
  | _ => 0
def sI (w : PW) (a k : Nat) (z : Int) : PW := match w.2.2 a with
  | .inr (c, fs) => pup w a (.inr (c, fs.set k (iv z)))
  | .inl (t, n, .inl f) => pup w a (.inl (t, n, .inl (upd f k (Int32.ofInt z))))
  | _ => w
def sL (w : PW) (a k : Nat) (x : Int64) : PW := match w.2.2 a with
  | .inl (t, n, .inr (.inl f)) => pup w a (.inl (t, n, .inr (.inl (vp_updL f k x))))
  | _ => w
theorem bd_gI (w : PW) (a k : Nat) : bd (gI w a k) := by
  unfold gI
  split
  · split
    · exact bd_toInt _
    · exact ⟨by decide, by decide⟩
  · exact bd_toInt _
  · exact ⟨by decide, by decide⟩
/-- is it a place of a whole number? -/
def slt (t : Shp) (k : Nat) : Prop := match t with
  | (0, _, l) => l[k]? = some none
  | (1, _, _) => True
  | _ => False
theorem sh_obj {w : PW} (hs : Sh w) {a ci : Nat} {l : List (Option Nat)} (ha : a < 182) (ht : tb a = (0, ci, l)) : ∃ fs, w.2.2 a = .inr (ci, fs) ∧ fs.map shv = l := by
  have h := hs.2 a ha
  rw [ht] at h
  unfold shp at h
  split at h <;> simp only [Prod.mk.injEq] at h
  · rename_i c fs he
    obtain ⟨-, rfl, h3⟩ := h
    exact ⟨fs, he, h3⟩
  all_goals exact absurd h.1 (by decide)
theorem sh_int {w : PW} (hs : Sh w) {a t n : Nat} (ha : a < 182) (ht : tb a = (1, t, [some n])) : ∃ f, w.2.2 a = .inl (t, n, .inl f) := by
  have h := hs.2 a ha
  rw [ht] at h
  unfold shp at h
  split at h <;> simp only [Prod.mk.injEq] at h
  · exact absurd h.1 (by decide)
  · rename_i t9 n9 f he
    obtain ⟨-, rfl, h3⟩ := h
    simp only [List.cons.injEq, Option.some.injEq, and_true] at h3
    subst h3
    exact ⟨f, he⟩
  all_goals exact absurd h.1 (by decide)
theorem sh_long {w : PW} (hs : Sh w) {a t n : Nat} (ha : a < 182) (ht : tb a = (3, t, [some n])) : ∃ f, w.2.2 a = .inl (t, n, .inr (.inl f)) := by
  have h := hs.2 a ha
  rw [ht] at h
  unfold shp at h
  split at h <;> simp only [Prod.mk.injEq] at h
  · exact absurd h.1 (by decide)
  · exact absurd h.1 (by decide)
  · rename_i t9 n9 f he
    obtain ⟨-, rfl, h3⟩ := h
    simp only [List.cons.injEq, Option.some.injEq, and_true] at h3
    subst h3
    exact ⟨f, he⟩
  all_goals exact absurd h.1 (by decide)
theorem sh_box {w : PW} (hs : Sh w) {a t : Nat} {l : List (Option Nat)} (ha : a < 182) (ht : tb a = (6, t, l)) : ∃ n f, w.2.2 a = .inl (t, n, .inr (.inr (.inr (.inr f)))) ∧ (List.range n).map f = l := by
  have h := hs.2 a ha
  rw [ht] at h
  unfold shp at h
  split at h <;> simp only [Prod.mk.injEq] at h
  · exact absurd h.1 (by decide)
  · exact absurd h.1 (by decide)
  · exact absurd h.1 (by decide)
  · exact absurd h.1 (by decide)
  · exact absurd h.1 (by decide)
  · rename_i t9 n9 f he
    obtain ⟨-, rfl, h3⟩ := h
    exact ⟨n9, f, he, h3⟩
theorem pup_at (w : PW) (a : Nat) (e : va_E) (b : Nat) : (pup w a e).2.2 b = if b = a then e else w.2.2 b := rfl
theorem sh_pup {w : PW} (hs : Sh w) {a : Nat} {e : va_E} (h : shp e = shp (w.2.2 a)) : Sh (pup w a e) := by
  refine ⟨hs.1, fun b hb => ?_⟩
  rw [pup_at]
  by_cases q : b = a
  · rw [if_pos q, h, q]; exact hs.2 a (q ▸ hb)
  · rw [if_neg q]; exact hs.2 b hb
theorem shv_set {fs : List Value} {k : Nat} {v : Value} (h : (fs.map shv)[k]? = some (shv v)) : (fs.set k v).map shv = fs.map shv := by
  rw [List.map_set]
  apply List.ext_getElem?
  intro j
  by_cases q : k = j
  · subst q
    rw [List.getElem?_set_self (List.getElem?_eq_some_iff.mp h).1, h]
  · rw [List.getElem?_set_ne q]
theorem Sh_sI {w : PW} (hs : Sh w) {a k : Nat} {z : Int} (h : slt (tb a) k) : Sh (sI w a k z) := by
  unfold sI
  by_cases ha : a < 182
  · have h9 := hs.2 a ha
    split
    · rename_i c fs he
      refine sh_pup hs ?_
      rw [he] at h9 ⊢
      have h10 : tb a = (0, c, fs.map shv) := h9.symm
      rw [h10] at h
      show (0, c, (fs.set k (iv z)).map shv) = (0, c, fs.map shv)
      rw [shv_set (v := iv z) h]
    · rename_i t n f he
      refine sh_pup hs ?_
      rw [he]
      rfl
    · exact hs
  · have h10 : tb a = (9, 9, []) := by
      unfold tb
      have hlen : tbs.length = 182 := by decide +kernel
      rw [List.getD_eq_getElem?_getD, List.getElem?_eq_none (by omega)]
      rfl
    rw [h10] at h
    exact h.elim
theorem Sh_sL {w : PW} (hs : Sh w) {a k : Nat} {x : Int64} : Sh (sL w a k x) := by
  unfold sL
  split
  · rename_i t n f he
    refine sh_pup hs ?_
    rw [he]
    rfl
  · exact hs
theorem gI_sI_ne {w : PW} {a k b j : Nat} {z : Int} (h : b ≠ a ∨ j ≠ k) : gI (sI w a k z) b j = gI w b j := by
  by_cases q : b = a
  · subst q
    have hj : j ≠ k := h.elim (fun h => absurd rfl h) id
    unfold sI
    split
    · rename_i c fs he
      unfold gI
      rw [pup_at, if_pos rfl, he]
      dsimp only
      rw [List.getElem?_set_ne (Ne.symm hj)]
    · rename_i t n f he
      unfold gI
      rw [pup_at, if_pos rfl, he]
      show ((upd f k (Int32.ofInt z)) j).toInt = (f j).toInt
      unfold upd
      rw [if_neg hj]
    · rfl
  · unfold sI
    split
    · unfold gI
      rw [pup_at, if_neg q]
    · unfold gI
      rw [pup_at, if_neg q]
    · rfl
theorem gI_sI_same {w : PW} (hs : Sh w) {a k : Nat} {z : Int} (ha : a < 182) (h : slt (tb a) k) (hz : bd z) : gI (sI w a k z) a k = z := by
  have h9 := hs.2 a ha
  unfold sI
  split
  · rename_i c fs he
    rw [he] at h9
    have h10 : tb a = (0, c, fs.map shv) := h9.symm
    rw [h10] at h
    have h11 : (fs.map shv)[k]? = some none := h
    have hk : k < fs.length := by
      have := (List.getElem?_eq_some_iff.mp h11).1
      rwa [List.length_map] at this
    unfold gI
    rw [pup_at, if_pos rfl]
    dsimp only
    rw [List.getElem?_set_self hk]
    exact toInt_iv hz
  · rename_i t n f he
    unfold gI
    rw [pup_at, if_pos rfl]
    show ((upd f k (Int32.ofInt z)) k).toInt = z
    unfold upd
    rw [if_pos rfl]
    exact toInt_iv hz
  · rename_i h1 h2
    exfalso
    rw [← h9] at h
    unfold shp at h
    split at h
    · rename_i c fs he
      exact h1 _ _ he
    · rename_i t n f he
      exact h2 _ _ _ he
    all_goals exact h
theorem gL_sI {w : PW} {a k b j : Nat} {z : Int} : gL (sI w a k z) b j = gL w b j := by
  unfold sI
  split
  · rename_i c fs he
    unfold gL
    rw [pup_at]
    by_cases q : b = a
    · rw [if_pos q, q, he]
    · rw [if_neg q]
  · rename_i t n f he
    unfold gL
    rw [pup_at]
    by_cases q : b = a
    · rw [if_pos q, q, he]
    · rw [if_neg q]
  · rfl
theorem gI_sL {w : PW} {a k b j : Nat} {x : Int64} : gI (sL w a k x) b j = gI w b j := by
  unfold sL
  split
  · rename_i t n f he
    unfold gI
    rw [pup_at]
    by_cases q : b = a
    · rw [if_pos q, q, he]
    · rw [if_neg q]
  · rfl
theorem gL_sL_ne {w : PW} {a k b j : Nat} {x : Int64} (h : b ≠ a ∨ j ≠ k) : gL (sL w a k x) b j = gL w b j := by
  unfold sL
  split
  · rename_i t n f he
    unfold gL
    rw [pup_at]
    by_cases q : b = a
    · subst q
      have hj : j ≠ k := h.elim (fun h => absurd rfl h) id
      rw [if_pos rfl, he]
      show (vp_updL f k x) j = f j
      unfold vp_updL
      rw [if_neg hj]
    · rw [if_neg q]
  · rfl
theorem gL_sL_same {w : PW} (hs : Sh w) {a k t n : Nat} {x : Int64} (ha : a < 182) (ht : tb a = (3, t, [some n])) : gL (sL w a k x) a k = x := by
  obtain ⟨f, hf⟩ := sh_long hs ha ht
  unfold sL
  rw [hf]
  unfold gL
  show (match (pup w a (.inl (t, n, .inr (.inl (vp_updL f k x))))).2.2 a with | .inl (_, _, .inr (.inl f)) => f k | _ => 0) = x
  rw [pup_at, if_pos rfl]
  show (vp_updL f k x) k = x
  unfold vp_updL
  rw [if_pos rfl]
