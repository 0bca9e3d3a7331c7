/-! THE READER: words, numbers, pitches; the class -/
def sIsW (l : List Nat) (a e : Nat) (t : List Nat) : Bool := decide (e - a = t.length) && decide (fnd (fun i => !decide (l.getD (a + i) 0 = t.getD i 0)) t.length = t.length)
theorem l13_17 {w : PW} {Q : PO → PW → Prop} {l : List Nat} {p x r2 : Nat} {a b s : Int} (hs : Sh w) (hR : RD w l p a b s) (hr : r2 < 38) (hx : x + (sTx.getD r2 []).length = p) (h : Q (rI (if fnd (fun i => !decide (l.getD (x + i) 0 = (sTx.getD r2 []).getD i 0)) (sTx.getD r2 []).length = (sTx.getD r2 []).length then 1 else 0)) w) : ∀ k i : Nat, i + k = (sTx.getD r2 []).length → (∀ y, y < i → (!decide (l.getD (x + y) 0 = (sTx.getD r2 []).getD y 0)) = false) → pX 13 17 [some (.ref 135), some (iv (x : Nat)), some (.ref (pSB + r2)), some (iv (i : Nat))] [] w Q := by
  have h4 := hR.2.2.2.2.2.1
  have h5 := hR.2.2.2.2.2.2.1
  intro k
  induction k with
  | zero =>
    intro i hi hI
    refine v13_17 hs (bdk (by omega)) hr (bdk (by omega)) ⟨fun _ => ?_, fun q => by omega⟩
    have e : fnd (fun i => !decide (l.getD (x + i) 0 = (sTx.getD r2 []).getD i 0)) (sTx.getD r2 []).length = i := fnd_eq hI (fun q => by omega) (by omega)
    rw [e, if_pos (by omega)] at h
    exact h
  | succ k ih =>
    intro i hi hI
    have hc := hR.2.2.2.2.2.2.2 (x + i) (by omega)
    refine v13_17 hs (bdk (by omega)) hr (bdk (by omega)) ⟨fun q => by omega, fun _ => ⟨⟨by omega, by omega⟩, ⟨by omega, by omega⟩, ?_⟩⟩
    rw [show ((x : Nat) : Int) + ((i : Nat) : Int) = ((x + i : Nat) : Int) from rfl, Int.toNat_natCast, Int.toNat_natCast, hc.1]
    refine ⟨fun q => ih (i + 1) (by omega) (fun y hy => ?_), fun q => ?_⟩
    · by_cases q2 : y = i
      · rw [q2, decide_eq_true (p := l.getD (x + i) 0 = (sTx.getD r2 []).getD i 0) (by omega)]
        rfl
      · exact hI y (by omega)
    · have e : fnd (fun i => !decide (l.getD (x + i) 0 = (sTx.getD r2 []).getD i 0)) (sTx.getD r2 []).length = i := fnd_eq hI (fun _ => by rw [decide_eq_false (p := l.getD (x + i) 0 = (sTx.getD r2 []).getD i 0) (by omega)]; rfl) (by omega)
      rw [e, if_neg (by omega)] at h
      exact h
theorem c13 {w : PW} {Q : PO → PW → Prop} {l : List Nat} {p x r2 : Nat} {a b s : Int} (hs : Sh w) (hR : RD w l p a b s) (hr : r2 < 38) (hx : x ≤ p) (h : Q (rI (if sIsW l x p (sTx.getD r2 []) = true then 1 else 0)) w) : pC 13 [.ref 135, iv (x : Nat), .ref (pSB + r2)] w Q := by
  have h4 := hR.2.2.2.2.2.1
  have h5 := hR.2.2.2.2.2.2.1
  refine e13 hs (bdk (by omega)) hr ?_
  rw [hR.2.2.2.2.1]
  unfold sIsW at h
  refine ⟨⟨by omega, by omega⟩, fun q => ?_, fun q => ?_⟩
  · rw [decide_eq_true (p := p - x = (sTx.getD r2 []).length) (by omega), Bool.true_and] at h
    refine l13_17 hs hR hr (by omega) ?_ _ 0 (Nat.zero_add _) (fun y hy => absurd hy (Nat.not_lt_zero y))
    by_cases q2 : fnd (fun i => !decide (l.getD (x + i) 0 = (sTx.getD r2 []).getD i 0)) (sTx.getD r2 []).length = (sTx.getD r2 []).length
    · rw [if_pos q2]
      rw [decide_eq_true q2, if_pos rfl] at h
      exact h
    · rw [if_neg q2]
      rw [decide_eq_false q2, if_neg Bool.false_ne_true] at h
      exact h
  · rw [decide_eq_false (p := p - x = (sTx.getD r2 []).length) (by omega), Bool.false_and, if_neg Bool.false_ne_true] at h
    exact h
def sNum (l : List Nat) (a : Nat) : Nat → Nat
  | 0 => 0
  | n + 1 => 10 * sNum l a n + (l.getD (a + n) 0 - 48)
/-- what fails: its kind and its place; or where the text goes on, and what was read -/
abbrev RS : Type := (Int × Nat) ⊕ (Nat × Int)
def sRd (l : List Nat) (p : Nat) (lo hi : Int) : RS :=
  if sWh isDg l (sW0 l p) = sW0 l p then .inl (1, sW0 l p)
  else if lo ≤ ((sNum l (sW0 l p) (sWh isDg l (sW0 l p) - sW0 l p) : Nat) : Int) ∧ ((sNum l (sW0 l p) (sWh isDg l (sW0 l p) - sW0 l p) : Nat) : Int) ≤ hi then .inr (sWh isDg l (sW0 l p), ((sNum l (sW0 l p) (sWh isDg l (sW0 l p) - sW0 l p) : Nat) : Int))
  else .inl (2, sW0 l p)
theorem sRd_bd {l : List Nat} {p q : Nat} {lo hi v : Int} (hp : p ≤ l.length) (h : sRd l p lo hi = .inr (q, v)) : p < q ∧ q ≤ l.length ∧ lo ≤ v ∧ v ≤ hi ∧ 0 ≤ v := by
  have h1 := sWh_bd (P := isSp) hp
  have h2 := sWh_bd (P := isDg) h1.2
  unfold sRd at h
  split at h
  · exact absurd h (fun z => by cases z)
  · split at h
    · rename_i q1 q2
      have h3 := Prod.mk.inj (Sum.inr.inj h)
      have e : sWh isSp l p = sW0 l p := rfl
      rw [e] at h1 h2
      omega
    · exact absurd h (fun z => by cases z)
section RDN
variable {w : PW} {Q : PO → PW → Prop} {l : List Nat} {p : Nat} {a b s lo hi : Int}
theorem ex15 {w1 : PW} {i : Nat} (hp : p ≤ l.length) (s1 : Sh w1) (hlo : 0 ≤ lo) (hhi : hi ≤ 64) (hE : ∀ kk aa, sRd l p lo hi = .inl (kk, aa) → ∀ w2 q, Sh w2 → RD w2 l q kk (aa : Nat) s → RX w w2 → Q (.inl (some (iv (-1)))) w2) (hV : ∀ q v, sRd l p lo hi = .inr (q, v) → ∀ w2, Sh w2 → RD w2 l q a b s → RX w w2 → Q (.inl (some (iv v))) w2) (hR : RD w1 l (sW0 l p + i) a b s) (hF : RX w w1) (he : sWh isDg l (sW0 l p) = sW0 l p + i) : (((sW0 l p + i : Nat) : Int) ≠ (sW0 l p : Nat) → (min 1000 ((sNum l (sW0 l p) i : Nat) : Int) < lo → ∀ w4 : PW, w4 = sI (sI w1 135 2 2) 135 3 (sW0 l p : Nat) → Q (.inl (some (iv (-1)))) w4) ∧ (lo ≤ min 1000 ((sNum l (sW0 l p) i : Nat) : Int) → (min 1000 ((sNum l (sW0 l p) i : Nat) : Int) ≤ hi → Q (.inl (some (iv (min 1000 ((sNum l (sW0 l p) i : Nat) : Int))))) w1) ∧ (hi < min 1000 ((sNum l (sW0 l p) i : Nat) : Int) → ∀ w6 : PW, w6 = sI (sI w1 135 2 2) 135 3 (sW0 l p : Nat) → Q (.inl (some (iv (-1)))) w6))) ∧ (((sW0 l p + i : Nat) : Int) = (sW0 l p : Nat) → ∀ w7 : PW, w7 = sI (sI w1 135 2 1) 135 3 (sW0 l p : Nat) → Q (.inl (some (iv (-1)))) w7) := by
  have h1 : p ≤ sW0 l p ∧ sW0 l p ≤ l.length := sWh_bd (P := isSp) hp
  have h7 := hR.2.2.2.2.2.2.1
  unfold sRd at hE hV
  rw [he, show sW0 l p + i - sW0 l p = i from by omega] at hE hV
  have bad : i ≠ 0 → ¬ (lo ≤ ((sNum l (sW0 l p) i : Nat) : Int) ∧ ((sNum l (sW0 l p) i : Nat) : Int) ≤ hi) → ∀ w4 : PW, w4 = sI (sI w1 135 2 2) 135 3 (sW0 l p : Nat) → Q (.inl (some (iv (-1)))) w4 := by
    intro q q2 w4 e4
    obtain ⟨s4, R4, F4⟩ := hR.fail s1 ⟨by decide, by decide⟩ (bdk (by omega)) e4
    rw [if_neg (by omega), if_neg q2] at hE
    exact hE 2 _ rfl w4 _ s4 R4 (hF.tr F4)
  refine ⟨fun q => ⟨fun q2 w4 e4 => bad (by omega) (by omega) w4 e4, fun q2 => ⟨fun q3 => ?_, fun q3 w4 e4 => bad (by omega) (by omega) w4 e4⟩⟩, fun q w4 e4 => ?_⟩
  · rw [if_neg (by omega), if_pos ⟨by omega, by omega⟩] at hV
    have e : min 1000 ((sNum l (sW0 l p) i : Nat) : Int) = ((sNum l (sW0 l p) i : Nat) : Int) := by omega
    rw [e]
    exact hV _ _ rfl w1 s1 hR hF
  · obtain ⟨s4, R4, F4⟩ := hR.fail s1 ⟨by decide, by decide⟩ (bdk (by omega)) e4
    rw [if_pos (by omega)] at hE
    exact hE 1 _ rfl w4 _ s4 R4 (hF.tr F4)
theorem l15_12 (hp : p ≤ l.length) (hlo : 0 ≤ lo) (hhi : hi ≤ 64) (blo : bd lo) (bhi : bd hi) (hE : ∀ kk aa, sRd l p lo hi = .inl (kk, aa) → ∀ w2 q, Sh w2 → RD w2 l q kk (aa : Nat) s → RX w w2 → Q (.inl (some (iv (-1)))) w2) (hV : ∀ q v, sRd l p lo hi = .inr (q, v) → ∀ w2, Sh w2 → RD w2 l q a b s → RX w w2 → Q (.inl (some (iv v))) w2) : ∀ k i : Nat, i + k = l.length - sW0 l p → ∀ w1, Sh w1 → RD w1 l (sW0 l p + i) a b s → RX w w1 → (∀ y, y < i → isDg (l.getD (sW0 l p + y) 0) = true) → pX 15 12 [some (.ref 135), some (iv lo), some (iv hi), some (iv (sW0 l p : Nat)), some (iv (min 1000 ((sNum l (sW0 l p) i : Nat) : Int)))] [] w1 Q := by
  have h1 : p ≤ sW0 l p ∧ sW0 l p ≤ l.length := sWh_bd (P := isSp) hp
  intro k
  induction k with
  | zero =>
    intro i hi1 w1 s1 hR hF hI
    have h7 := hR.2.2.2.2.2.2.1
    have hx : sWh isDg l (sW0 l p) = sW0 l p + i := sWh_at hI (fun q => by omega) (by omega)
    refine v15_12 s1 blo bhi (bdk (by omega)) ⟨by omega, by omega⟩ ?_
    rw [hR.1, hR.2.2.2.2.1]
    exact ⟨fun _ => ex15 hp s1 hlo hhi hE hV hR hF hx, fun q => by omega⟩
  | succ k ih =>
    intro i hi1 w1 s1 hR hF hI
    have h7 := hR.2.2.2.2.2.2.1
    have hc := hR.2.2.2.2.2.2.2 (sW0 l p + i) (by omega)
    have hx : ¬ (48 ≤ l.getD (sW0 l p + i) 0 ∧ l.getD (sW0 l p + i) 0 ≤ 57) → _ := fun q => ex15 hp s1 hlo hhi hE hV hR hF (sWh_at hI (fun _ => decide_eq_false q) (by omega))
    refine v15_12 s1 blo bhi (bdk (by omega)) ⟨by omega, by omega⟩ ?_
    rw [hR.1, hR.2.2.2.2.1, Int.toNat_natCast, hc.1]
    refine ⟨fun q => by omega, fun _ => ⟨⟨by omega, by omega⟩, fun q => hx (by omega), fun q => ⟨⟨by omega, by omega⟩, fun q2 => hx (by omega), fun q2 => ⟨⟨by omega, by omega⟩, ⟨by omega, by omega⟩, fun w2 e2 => ?_⟩⟩⟩⟩
    obtain ⟨s2, R2, F2⟩ := hR.next s1 (by omega) e2
    have := ih (i + 1) (by omega) w2 s2 R2 (hF.tr F2) (fun y hy => by
      by_cases q3 : y = i
      · rw [q3]
        exact decide_eq_true ⟨by omega, by omega⟩
      · exact hI y (by omega))
    have e : min 1000 ((sNum l (sW0 l p) (i + 1) : Nat) : Int) = min 1000 (10 * min 1000 ((sNum l (sW0 l p) i : Nat) : Int) + ((l.getD (sW0 l p + i) 0 : Nat) : Int) - 48) := by
      show min 1000 (((10 * sNum l (sW0 l p) i + (l.getD (sW0 l p + i) 0 - 48) : Nat)) : Int) = _
      omega
    rw [e] at this
    exact this
theorem c15 (hs : Sh w) (hR : RD w l p a b s) (hlo : 0 ≤ lo) (hhi : hi ≤ 64) (blo : bd lo) (bhi : bd hi) (hE : ∀ kk aa, sRd l p lo hi = .inl (kk, aa) → ∀ w2 q, Sh w2 → RD w2 l q kk (aa : Nat) s → RX w w2 → Q (.inl (some (iv (-1)))) w2) (hV : ∀ q v, sRd l p lo hi = .inr (q, v) → ∀ w2, Sh w2 → RD w2 l q a b s → RX w w2 → Q (.inl (some (iv v))) w2) : pC 15 [.ref 135, iv lo, iv hi] w Q := by
  refine e15 hs blo bhi (c11 hs hR (fun w2 s2 R2 F2 => ⟨s2, ?_⟩))
  rw [R2.2.2.2.2.1]
  exact l15_12 hR.2.2.2.2.2.1 hlo hhi blo bhi (fun kk aa q w3 p3 s3 R3 F3 => hE kk aa q w3 p3 s3 R3 F3) (fun q v e w3 s3 R3 F3 => hV q v e w3 s3 R3 F3) _ 0 (Nat.zero_add _) w2 s2 R2 F2 (fun y hy => absurd hy (Nat.not_lt_zero y))
end RDN

