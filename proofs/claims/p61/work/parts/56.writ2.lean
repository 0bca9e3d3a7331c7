/-! THE CLASS's FACE: texts written; what was kept -/
def TO (w : PW) (o : Option (List Nat)) (w2 : PW) : Prop := match o with
  | none => w2 = w
  | some l => Sh w2 ∧ WF w w2 ∧ WL w2 l
def tPin (m : Row) (u t : Nat) : Nat → List Nat
  | 0 => []
  | n + 1 => tPin m u t n ++ [if rPin m u n t = true then 111 else 46]
theorem tPin_len (m : Row) (u t : Nat) : ∀ n, (tPin m u t n).length = n := by
  intro n
  induction n with
  | zero => rfl
  | succ n ih =>
    show (tPin m u t n ++ [_]).length = n + 1
    rw [List.length_append, ih]
    rfl
def txt207 (m : Row) (u t : Nat) : List Nat := oPit (rT m t 0).toNat ++ [58] ++ tPin m u t (m 0).toNat
def st207 (m : Row) (x1 x2 : Int) : PO × Option (List Nat) := aU m x1 (aP (0 ≤ x2 ∧ x2 < m 4) 2 (rI ((txt207 m x1.toNat x2.toNat).length : Nat), some (txt207 m x1.toNat x2.toNat)))
theorem wlStart {w w3 : PW} (hs : Sh w) (e3 : w3 = sI w 137 1 0) : Sh w3 ∧ WL w3 [] ∧ WF w w3 := by
  obtain ⟨s1, g1, -, k1⟩ := stI e3 hs (by omega) (slt_o tbC_137 rfl) bd0
  exact ⟨s1, ⟨by rw [g1, if_pos ⟨rfl, rfl⟩]; rfl, fun k hk => absurd hk (Nat.not_lt_zero k)⟩, fun c hc => k1 c (by omega)⟩
def tAdd (l : List Nat) (p : Nat) : Nat → List Nat
  | 0 => l
  | c + 1 => (if (tAdd l p c).length = 0 then tAdd l p c else tAdd l p c ++ [43]) ++ oPit p
theorem tAdd_len {l : List Nat} {p : Nat} (hp : p < 24) : ∀ c, (tAdd l p c).length ≤ l.length + 5 * c := by
  intro c
  induction c with
  | zero => exact Nat.le_refl _
  | succ c ih =>
    have := oPit_len hp
    show ((if (tAdd l p c).length = 0 then tAdd l p c else tAdd l p c ++ [43]) ++ oPit p).length ≤ _
    rw [List.length_append]
    split
    · omega
    · rw [List.length_append]
      show _ + 1 + _ ≤ _
      omega
def tRow (m : Row) (u s : Int) : Nat → List Nat
  | 0 => []
  | p + 1 => tAdd (tRow m u s p) p (sInRow m u p s 1)
theorem tRow_len (m : Row) (u s : Int) : ∀ p, p ≤ 24 → (tRow m u s p).length ≤ 5 * cnt (fun i => decide (rN m i 2 < (p : Int))) (m 5).toNat := by
  intro p
  induction p with
  | zero => intro _; exact Nat.zero_le _
  | succ p ih =>
    intro hp
    have h1 := ih (by omega)
    have h2 := tAdd_len (l := tRow m u s p) (p := p) (by omega) (sInRow m u p s 1)
    have h3 : sInRow m u p s 1 ≤ cnt (fun i => decide (rN m i 2 = (p : Int))) (m 5).toNat := by
      refine cnt_and_le (fun i _ q => ?_)
      unfold sRowP at q
      rw [Bool.and_eq_true] at q
      exact decide_eq_true (of_decide_eq_true q.1).2
    have h4 := cnt_or (P := fun i => decide (rN m i 2 < (p : Int))) (Q := fun i => decide (rN m i 2 = (p : Int))) (n := (m 5).toNat) (fun i _ q => decide_eq_false (by have := of_decide_eq_true q; omega))
    have h5 : cnt (fun i => decide (rN m i 2 < ((p + 1 : Nat) : Int))) (m 5).toNat = cnt (fun i => decide (rN m i 2 < (p : Int)) || decide (rN m i 2 = (p : Int))) (m 5).toNat := by
      refine cnt_congr (fun i _ => ?_)
      rw [← Bool.decide_or]
      exact decide_eq_decide.mpr ⟨fun z => by omega, fun z => by omega⟩
    show (tAdd (tRow m u s p) p (sInRow m u p s 1)).length ≤ _
    rw [h5]
    omega
def st209 (m : Row) (x1 x2 : Int) : PO × Option (List Nat) := aU m x1 (aP (0 ≤ x2 ∧ x2 < m 0) 1 (rI ((tRow m x1 x2 24).length : Nat), some (tRow m x1 x2 24)))
