/-! THE LAW's TEXT: in numbers -/
def tS (sn : Nat) (sf : Nat → Int32) : Nat := 8 + cv sn sf 0 % 9
def tU (sn : Nat) (sf : Nat → Int32) : Nat := 1 + cv sn sf 1 % 3
def tT (sn : Nat) (sf : Nat → Int32) : Nat := 1 + cv sn sf 2 % 5
def tG (sn : Nat) (sf : Nat → Int32) : Nat := cv sn sf 3 % 4
def tV (sn : Nat) (sf : Nat → Int32) : Nat := 1 + cv sn sf 4 % 3
def te1 (sn : Nat) (sf : Nat → Int32) (k : Nat) : ST := (1, cv sn sf (5 + k) % 4, 1 + cv sn sf (10 + k) % 5, 0)
def no1 (sn : Nat) (sf : Nat → Int32) (k : Nat) : ST := (2, cv sn sf (16 + k) % tU sn sf, cv sn sf (24 + k) % tS sn sf, cv sn sf (32 + k) % 4)
def pi1 (sn : Nat) (sf : Nat → Int32) (k : Nat) : ST := (3, cv sn sf (41 + k) % tU sn sf, cv sn sf (49 + k) % tS sn sf, cv sn sf (57 + k) % tT sn sf)
def tNn (sn : Nat) (sf : Nat → Int32) : Nat := cv sn sf 15 % 9
def tPn (sn : Nat) (sf : Nat → Int32) : Nat := cv sn sf 40 % 9
def many (f : Nat → ST) : Nat → List ST
  | 0 => []
  | k + 1 => many f k ++ [f k]
def tL2 (sn : Nat) (sf : Nat → Int32) (a b c : Nat) : List ST := (((0, tV sn sf, 0, 0) :: many (te1 sn sf) a) ++ many (no1 sn sf) b) ++ many (pi1 sn sf) c
def tList (sn : Nat) (sf : Nat → Int32) : List ST := tL2 sn sf (tT sn sf) (tNn sn sf) (tPn sn sf)
/-- the text of a script -/
def tText (sn : Nat) (sf : Nat → Int32) : List Nat := tAll (tS sn sf) (tU sn sf) (tG sn sf) (tList sn sf)
def Fc (m : Row) (S U t n : Nat) : Prop := m 0 = S ∧ m 1 = U ∧ m 4 = t ∧ m 5 = n ∧ m 8 = 0 ∧ m 9 = 0
section TMA
variable {m : Row} {S U t n : Nat} {sn : Nat} {sf : Nat → Int32}
theorem semL_app (m : Row) (A B : List ST) : semL m (A ++ B) = semL (semL m A) B := by
  induction A generalizing m with
  | nil => rfl
  | cons a A ih => exact ih (sem m a)
theorem okL_app (m : Row) (A B : List ST) (h1 : okL m A) (h2 : okL (semL m A) B) : okL m (A ++ B) := by
  induction A generalizing m with
  | nil => exact h2
  | cons a A ih => exact ⟨h1.1, ih (sem m a) h1.2 h2⟩
theorem encs_app (A B : List ST) : encs (A ++ B) = encs A ++ encs B := by
  induction A with
  | nil => rfl
  | cons a A ih =>
    show 59 :: (enc a ++ (trl a ++ encs (A ++ B))) = 59 :: (enc a ++ (trl a ++ encs A)) ++ encs B
    rw [ih]
    simp only [List.append_assoc, List.cons_append]
theorem Fc.te (h : Fc m S U t n) (k : Nat) : Fc (sem m (te1 sn sf k)) S U (t + 1) n := by
  obtain ⟨h0, h1, h4, h5, h8, h9⟩ := h
  have e : ∀ j, j < 11 → j ≠ 4 → sem m (te1 sn sf k) j = m j := fun j hj hn => rTooth_L hj hn
  have e4 : sem m (te1 sn sf k) 4 = m 4 + 1 := rfl
  unfold Fc
  rw [e 0 (by decide) (by decide), e 1 (by decide) (by decide), e4, e 5 (by decide) (by decide), e 8 (by decide) (by decide), e 9 (by decide) (by decide)]
  exact ⟨h0, h1, by omega, h5, h8, h9⟩
theorem Fc.no (h : Fc m S U t n) (k : Nat) : Fc (sem m (no1 sn sf k)) S U t (n + 1) := by
  obtain ⟨h0, h1, h4, h5, h8, h9⟩ := h
  have e : ∀ j, j < 71 → j ≠ 5 → sem m (no1 sn sf k) j = m j := fun j hj hn => rNote_L hj hn
  have e5 : sem m (no1 sn sf k) 5 = m 5 + 1 := rfl
  unfold Fc
  rw [e 0 (by decide) (by decide), e 1 (by decide) (by decide), e 4 (by decide) (by decide), e5, e 8 (by decide) (by decide), e 9 (by decide) (by decide)]
  exact ⟨h0, h1, h4, by omega, h8, h9⟩
theorem Fc.pi (h : Fc m S U t n) (k : Nat) : Fc (sem m (pi1 sn sf k)) S U t n := by
  obtain ⟨h0, h1, h4, h5, h8, h9⟩ := h
  have e : ∀ j, j < 251 → sem m (pi1 sn sf k) j = m j := fun j hj => by
    show rPut m _ _ _ j = m j
    unfold rPut
    exact rSetP_lo hj
  unfold Fc
  rw [e 0 (by decide), e 1 (by decide), e 4 (by decide), e 5 (by decide), e 8 (by decide), e 9 (by decide)]
  exact ⟨h0, h1, h4, h5, h8, h9⟩
theorem many_te (h : Fc m S U 0 n) : ∀ k : Nat, k ≤ 5 → okL m (many (te1 sn sf) k) ∧ Fc (semL m (many (te1 sn sf) k)) S U k n := by
  intro k
  induction k with
  | zero => intro _; exact ⟨trivial, h⟩
  | succ k ih =>
    intro hk
    obtain ⟨i1, i2⟩ := ih (by omega)
    refine ⟨okL_app m _ _ i1 ⟨?_, trivial⟩, ?_⟩
    · exact ⟨by omega, ⟨by omega, by omega⟩, by rw [i2.2.2.1]; omega⟩
    · show Fc (semL m (many (te1 sn sf) k ++ [te1 sn sf k])) S U (k + 1) n
      rw [semL_app]
      exact i2.te k
theorem many_no (h : Fc m (tS sn sf) (tU sn sf) t 0) : ∀ k : Nat, k ≤ 8 → okL m (many (no1 sn sf) k) ∧ Fc (semL m (many (no1 sn sf) k)) (tS sn sf) (tU sn sf) t k := by
  have hS : 8 ≤ tS sn sf ∧ tS sn sf ≤ 16 := by unfold tS; omega
  have hU : 1 ≤ tU sn sf ∧ tU sn sf ≤ 3 := by unfold tU; omega
  intro k
  induction k with
  | zero => intro _; exact ⟨trivial, h⟩
  | succ k ih =>
    intro hk
    obtain ⟨i1, i2⟩ := ih (by omega)
    have a1 := Nat.mod_lt (cv sn sf (16 + k)) (show 0 < tU sn sf by omega)
    have a2 := Nat.mod_lt (cv sn sf (24 + k)) (show 0 < tS sn sf by omega)
    refine ⟨okL_app m _ _ i1 ⟨?_, trivial⟩, ?_⟩
    · exact ⟨by omega, ⟨by omega, by omega⟩, by rw [i2.2.1]; omega, by rw [i2.1]; omega, by rw [i2.2.2.2.1]; omega⟩
    · show Fc (semL m (many (no1 sn sf) k ++ [no1 sn sf k])) (tS sn sf) (tU sn sf) t (k + 1)
      rw [semL_app]
      exact i2.no k
theorem many_pi (h : Fc m (tS sn sf) (tU sn sf) (tT sn sf) n) : ∀ k : Nat, okL m (many (pi1 sn sf) k) ∧ Fc (semL m (many (pi1 sn sf) k)) (tS sn sf) (tU sn sf) (tT sn sf) n := by
  have hS : 8 ≤ tS sn sf ∧ tS sn sf ≤ 16 := by unfold tS; omega
  have hU : 1 ≤ tU sn sf ∧ tU sn sf ≤ 3 := by unfold tU; omega
  have hT : 1 ≤ tT sn sf ∧ tT sn sf ≤ 5 := by unfold tT; omega
  intro k
  induction k with
  | zero => exact ⟨trivial, h⟩
  | succ k ih =>
    obtain ⟨i1, i2⟩ := ih
    have a1 := Nat.mod_lt (cv sn sf (41 + k)) (show 0 < tU sn sf by omega)
    have a2 := Nat.mod_lt (cv sn sf (49 + k)) (show 0 < tS sn sf by omega)
    have a3 := Nat.mod_lt (cv sn sf (57 + k)) (show 0 < tT sn sf by omega)
    refine ⟨okL_app m _ _ i1 ⟨?_, trivial⟩, ?_⟩
    · exact ⟨⟨by omega, by omega, by omega⟩, by rw [i2.2.1]; omega, by rw [i2.1]; omega, by rw [i2.2.2.1]; omega⟩
    · show Fc (semL m (many (pi1 sn sf) k ++ [pi1 sn sf k])) (tS sn sf) (tU sn sf) (tT sn sf) n
      rw [semL_app]
      exact i2.pi k
/-- what is read of the text of a script -/
theorem text_load (sn : Nat) (sf : Nat → Int32) : ∃ m2, sLoad (tText sn sf) = .inr m2 ∧ 1 ≤ m2 4 ∧ m2 8 = 0 ∧ m2 9 = 0 := by
  have hS : 8 ≤ tS sn sf ∧ tS sn sf ≤ 16 := by unfold tS; omega
  have hU : 1 ≤ tU sn sf ∧ tU sn sf ≤ 3 := by unfold tU; omega
  have hT : 1 ≤ tT sn sf ∧ tT sn sf ≤ 5 := by unfold tT; omega
  have hV : 1 ≤ tV sn sf ∧ tV sn sf ≤ 4 := by unfold tV; omega
  have hG : tG sn sf ≤ 3 := by unfold tG; omega
  have f0 : Fc (sem (rBegin (tS sn sf) (tU sn sf) (tG sn sf)) (0, tV sn sf, 0, 0)) (tS sn sf) (tU sn sf) 0 0 := by
    have e : ∀ j, j ≠ 3 → sem (rBegin (tS sn sf) (tU sn sf) (tG sn sf)) (0, tV sn sf, 0, 0) j = rBegin (tS sn sf) (tU sn sf) (tG sn sf) j := fun j hj => if_neg hj
    unfold Fc
    rw [e 0 (by decide), e 1 (by decide), e 4 (by decide), e 5 (by decide), e 8 (by decide), e 9 (by decide)]
    exact ⟨rfl, rfl, rfl, rfl, rfl, rfl⟩
  obtain ⟨t1, t2⟩ := many_te (sn := sn) (sf := sf) f0 (tT sn sf) (by omega)
  obtain ⟨n1, n2⟩ := many_no t2 (tNn sn sf) (by unfold tNn; omega)
  obtain ⟨p1, p2⟩ := many_pi n2 (tPn sn sf)
  have eL : semL (rBegin (tS sn sf) (tU sn sf) (tG sn sf)) (tList sn sf) = semL (semL (semL (sem (rBegin (tS sn sf) (tU sn sf) (tG sn sf)) (0, tV sn sf, 0, 0)) (many (te1 sn sf) (tT sn sf))) (many (no1 sn sf) (tNn sn sf))) (many (pi1 sn sf) (tPn sn sf)) := by
    unfold tList tL2
    rw [semL_app, semL_app]
    rfl
  refine ⟨semL (rBegin (tS sn sf) (tU sn sf) (tG sn sf)) (tList sn sf), load_all ⟨hS.1, by omega⟩ hU hG ?_, ?_⟩
  · refine okL_app _ _ _ (okL_app _ _ _ ⟨hV, t1⟩ n1) ?_
    rw [semL_app]
    exact p1
  · rw [eL]
    obtain ⟨q0, q1, q4, q5, q8, q9⟩ := p2
    exact ⟨by rw [q4]; omega, q8, q9⟩
/-! its length and its signs -/
def asc (l : List Nat) : Prop := ∀ c ∈ l, 0 < c ∧ c < 128
theorem asc_app {a b : List Nat} (h1 : asc a) (h2 : asc b) : asc (a ++ b) := fun c hc => (List.mem_append.mp hc).elim (h1 c) (h2 c)
theorem asc_cons {c : Nat} {b : List Nat} (h1 : 0 < c ∧ c < 128) (h2 : asc b) : asc (c :: b) := fun x hx => (List.mem_cons.mp hx).elim (fun e => e ▸ h1) (h2 x)
theorem asc_nu {v : Nat} (hv : v < 100) : asc (nu v) := fun c hc => by
  have := of_decide_eq_true (nu_dg hv c hc)
  omega
theorem asc_nil : asc [] := fun c hc => by cases hc
theorem asc_wd : asc wBar ∧ asc wSpe ∧ asc wToo ∧ asc wNot ∧ asc wPin ∧ ∀ k, k < 4 → asc (nmS k) := by
  unfold asc
  decide +kernel
theorem asc_32 {b : List Nat} (h : asc b) : asc (32 :: b) := asc_cons (by decide) h
theorem nm_len : ∀ k, k < 4 → (nmS k).length = 1 ∧ oc k < 100 := by decide +kernel
theorem asc_te (sn : Nat) (sf : Nat → Int32) (k : Nat) : asc (encs [te1 sn sf k]) ∧ (encs [te1 sn sf k]).length ≤ 14 := by
  obtain ⟨z0, z1, z2, z3, z4, z5⟩ := asc_wd
  have hk : cv sn sf (5 + k) % 4 < 4 := by omega
  have l1 := nm_len _ hk
  have l2 := nu_len (oc (cv sn sf (5 + k) % 4))
  have l3 := nu_len (1 + cv sn sf (10 + k) % 5)
  show asc (59 :: ((wToo ++ 32 :: (nmS (cv sn sf (5 + k) % 4) ++ 32 :: (nu (oc (cv sn sf (5 + k) % 4)) ++ 32 :: nu (1 + cv sn sf (10 + k) % 5)))) ++ ([] ++ []))) ∧ (59 :: ((wToo ++ 32 :: (nmS (cv sn sf (5 + k) % 4) ++ 32 :: (nu (oc (cv sn sf (5 + k) % 4)) ++ 32 :: nu (1 + cv sn sf (10 + k) % 5)))) ++ ([] ++ []))).length ≤ 14
  refine ⟨asc_cons (by decide) (asc_app (asc_app z2 (asc_32 (asc_app (z5 _ hk) (asc_32 (asc_app (asc_nu l1.2) (asc_32 (asc_nu (by omega)))))))) asc_nil), ?_⟩
  simp only [List.length_append, List.length_cons, List.length_nil]
  have : wToo.length = 5 := rfl
  omega
theorem asc_no (sn : Nat) (sf : Nat → Int32) (k : Nat) : asc (encs [no1 sn sf k]) ∧ (encs [no1 sn sf k]).length ≤ 17 := by
  obtain ⟨z0, z1, z2, z3, z4, z5⟩ := asc_wd
  have hS : 8 ≤ tS sn sf ∧ tS sn sf ≤ 16 := by unfold tS; omega
  have hU : 1 ≤ tU sn sf ∧ tU sn sf ≤ 3 := by unfold tU; omega
  have a1 := Nat.mod_lt (cv sn sf (16 + k)) (show 0 < tU sn sf by omega)
  have a2 := Nat.mod_lt (cv sn sf (24 + k)) (show 0 < tS sn sf by omega)
  have hk : cv sn sf (32 + k) % 4 < 4 := by omega
  have l1 := nm_len _ hk
  have l2 := nu_len (oc (cv sn sf (32 + k) % 4))
  show asc (59 :: ((wNot ++ 32 :: (nu (cv sn sf (16 + k) % tU sn sf) ++ 32 :: (nu (cv sn sf (24 + k) % tS sn sf) ++ 32 :: (nmS (cv sn sf (32 + k) % 4) ++ 32 :: nu (oc (cv sn sf (32 + k) % 4)))))) ++ ([32] ++ []))) ∧ (59 :: ((wNot ++ 32 :: (nu (cv sn sf (16 + k) % tU sn sf) ++ 32 :: (nu (cv sn sf (24 + k) % tS sn sf) ++ 32 :: (nmS (cv sn sf (32 + k) % 4) ++ 32 :: nu (oc (cv sn sf (32 + k) % 4)))))) ++ ([32] ++ []))).length ≤ 17
  generalize cv sn sf (16 + k) % tU sn sf = u at *
  generalize cv sn sf (24 + k) % tS sn sf = s at *
  have l3 := nu_len u
  have l4 := nu_len s
  refine ⟨asc_cons (by decide) (asc_app (asc_app z3 (asc_32 (asc_app (asc_nu (by omega)) (asc_32 (asc_app (asc_nu (by omega)) (asc_32 (asc_app (z5 _ hk) (asc_32 (asc_nu l1.2))))))))) (asc_32 asc_nil)), ?_⟩
  simp only [List.length_append, List.length_cons, List.length_nil]
  have : wNot.length = 4 := rfl
  omega
theorem asc_pi (sn : Nat) (sf : Nat → Int32) (k : Nat) : asc (encs [pi1 sn sf k]) ∧ (encs [pi1 sn sf k]).length ≤ 13 := by
  obtain ⟨z0, z1, z2, z3, z4, z5⟩ := asc_wd
  have hS : 8 ≤ tS sn sf ∧ tS sn sf ≤ 16 := by unfold tS; omega
  have hU : 1 ≤ tU sn sf ∧ tU sn sf ≤ 3 := by unfold tU; omega
  have hT : 1 ≤ tT sn sf ∧ tT sn sf ≤ 5 := by unfold tT; omega
  have a1 := Nat.mod_lt (cv sn sf (41 + k)) (show 0 < tU sn sf by omega)
  have a2 := Nat.mod_lt (cv sn sf (49 + k)) (show 0 < tS sn sf by omega)
  have a3 := Nat.mod_lt (cv sn sf (57 + k)) (show 0 < tT sn sf by omega)
  show asc (59 :: ((wPin ++ 32 :: (nu (cv sn sf (41 + k) % tU sn sf) ++ 32 :: (nu (cv sn sf (49 + k) % tS sn sf) ++ 32 :: nu (cv sn sf (57 + k) % tT sn sf)))) ++ ([] ++ []))) ∧ (59 :: ((wPin ++ 32 :: (nu (cv sn sf (41 + k) % tU sn sf) ++ 32 :: (nu (cv sn sf (49 + k) % tS sn sf) ++ 32 :: nu (cv sn sf (57 + k) % tT sn sf)))) ++ ([] ++ []))).length ≤ 13
  generalize cv sn sf (41 + k) % tU sn sf = u at *
  generalize cv sn sf (49 + k) % tS sn sf = s at *
  generalize cv sn sf (57 + k) % tT sn sf = t at *
  have l3 := nu_len u
  have l4 := nu_len s
  have l5 := nu_len t
  refine ⟨asc_cons (by decide) (asc_app (asc_app z4 (asc_32 (asc_app (asc_nu (by omega)) (asc_32 (asc_app (asc_nu (by omega)) (asc_32 (asc_nu (by omega)))))))) asc_nil), ?_⟩
  simp only [List.length_append, List.length_cons, List.length_nil]
  have : wPin.length = 3 := rfl
  omega
theorem asc_many {f : Nat → ST} {c : Nat} (h : ∀ k, asc (encs [f k]) ∧ (encs [f k]).length ≤ c) : ∀ k : Nat, asc (encs (many f k)) ∧ (encs (many f k)).length ≤ c * k := by
  intro k
  induction k with
  | zero => exact ⟨asc_nil, Nat.le_refl _⟩
  | succ k ih =>
    show asc (encs (many f k ++ [f k])) ∧ (encs (many f k ++ [f k])).length ≤ c * (k + 1)
    rw [encs_app, List.length_append, Nat.mul_succ]
    have := h k
    exact ⟨asc_app ih.1 this.1, by omega⟩
theorem text_asc (sn : Nat) (sf : Nat → Int32) : asc (tText sn sf) ∧ (tText sn sf).length ≤ 400 := by
  obtain ⟨z0, z1, z2, z3, z4, z5⟩ := asc_wd
  have hS : 8 ≤ tS sn sf ∧ tS sn sf ≤ 16 := by unfold tS; omega
  have hU : 1 ≤ tU sn sf ∧ tU sn sf ≤ 3 := by unfold tU; omega
  have hT : 1 ≤ tT sn sf ∧ tT sn sf ≤ 5 := by unfold tT; omega
  have hV : 1 ≤ tV sn sf ∧ tV sn sf ≤ 4 := by unfold tV; omega
  have hG : tG sn sf ≤ 3 := by unfold tG; omega
  have hN : tNn sn sf ≤ 8 := by unfold tNn; omega
  have hP : tPn sn sf ≤ 8 := by unfold tPn; omega
  obtain ⟨t1, t2⟩ := asc_many (asc_te sn sf) (tT sn sf)
  obtain ⟨n1, n2⟩ := asc_many (asc_no sn sf) (tNn sn sf)
  obtain ⟨p1, p2⟩ := asc_many (asc_pi sn sf) (tPn sn sf)
  have e : encs (tList sn sf) = ((59 :: ((wSpe ++ 32 :: nu (tV sn sf)) ++ ([] ++ encs (many (te1 sn sf) (tT sn sf))))) ++ encs (many (no1 sn sf) (tNn sn sf))) ++ encs (many (pi1 sn sf) (tPn sn sf)) := by
    unfold tList tL2
    rw [encs_app, encs_app]
    rfl
  unfold tText tAll
  rw [e]
  refine ⟨asc_app z0 (asc_32 (asc_app (asc_nu (by omega)) (asc_32 (asc_app (asc_nu (by omega)) (asc_32 (asc_app (asc_nu (by omega)) (asc_app (asc_app (asc_cons (by decide) (asc_app (asc_app z1 (asc_32 (asc_nu (by omega)))) (asc_app asc_nil t1))) n1) p1))))))), ?_⟩
  have l1 := nu_len (tS sn sf)
  have l2 := nu_len (tU sn sf)
  have l3 := nu_len (tG sn sf)
  have l4 := nu_len (tV sn sf)
  simp only [List.length_append, List.length_cons, List.length_nil]
  have : wBar.length = 6 := rfl
  have : wSpe.length = 5 := rfl
  omega
end TMA
