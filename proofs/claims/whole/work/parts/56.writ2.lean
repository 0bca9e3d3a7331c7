/-! THE CLASS's FACE: texts written; what was kept -/
def TO (w : PW) (o : Option (List Nat)) (w2 : PW) : Prop := match o with
  | none => w2 = w
  | some l => Sh w2 ∧ WF w w2 ∧ WL w2 l
def tPin (m : Row) (u t : Nat) : Nat → List Nat
  | 0 => []
  | n + 1 => tPin m u t n ++ [if rPin m u n t = true then 111 else 46]
theorem tPin_len (m : Row) (u t : Nat) : ∀ n, (tPin m u t n).length = n := by
  intro n
  induction n with
  | zero => rfl
  | succ n ih =>
    show (tPin m u t n ++ [_]).length = n + 1
    rw [List.length_append, ih]
    rfl
def txt207 (m : Row) (u t : Nat) : List Nat := oPit (rT m t 0).toNat ++ [58] ++ tPin m u t (m 0).toNat
def st207 (m : Row) (x1 x2 : Int) : PO × Option (List Nat) := aU m x1 (aP (0 ≤ x2 ∧ x2 < m 4) 2 (rI ((txt207 m x1.toNat x2.toNat).length : Nat), some (txt207 m x1.toNat x2.toNat)))
theorem wlStart {w w3 : PW} (hs : Sh w) (e3 : w3 = sI w 137 1 0) : Sh w3 ∧ WL w3 [] ∧ WF w w3 := by
  obtain ⟨s1, g1, -, k1⟩ := stI e3 hs (by omega) (slt_o tbC_137 rfl) bd0
  exact ⟨s1, ⟨by rw [g1, if_pos ⟨rfl, rfl⟩]; rfl, fun k hk => absurd hk (Nat.not_lt_zero k)⟩, fun c hc => k1 c (by omega)⟩
theorem l207_45 {w : PW} {Q : PO → PW → Prop} {u t : Nat} {m : Row} {a : List Nat} (hs : Sh w) (hB : BR w 1 m) (hu : (u : Int) < m 1) (ht : (t : Int) < m 4) (ha : a.length ≤ 10) (h : ∀ w2, Sh w2 → WF w w2 → WL w2 (a ++ tPin m u t (m 0).toNat) → Q (rI ((a ++ tPin m u t (m 0).toNat).length : Nat)) w2) : ∀ k i : Nat, i + k = (m 0).toNat → ∀ w1, Sh w1 → WL w1 (a ++ tPin m u t i) → WF w w1 → pX 207 45 [some (.ref 0), some (iv (u : Nat)), some (iv (t : Nat)), some (iv (i : Nat))] [] w1 Q := by
  have h0 := hB.ok.s
  have h1 := hB.ok.u
  have h4 := hB.ok.t
  intro k
  induction k with
  | zero =>
    intro i hi w1 s1 hW hF
    have b1 := hF.br hB
    refine v207_45 s1 (bdk (by omega)) (bdk (by omega)) (bdk (by omega)) ?_
    rw [b1.s]
    refine ⟨fun _ => ?_, fun q => by omega⟩
    rw [show i = (m 0).toNat from by omega] at hW
    rw [hW.1]
    exact h w1 s1 hF hW
  | succ k ih =>
    intro i hi w1 s1 hW hF
    have b1 := hF.br hB
    have hl : (a ++ tPin m u t i).length < 400 := by rw [List.length_append, tPin_len]; omega
    refine v207_45 s1 (bdk (by omega)) (bdk (by omega)) (bdk (by omega)) ?_
    rw [b1.s, b1.u, b1.pin (u := (u : Nat)) (s := (i : Nat)) ⟨by omega, hu⟩ ⟨by omega, by omega⟩ ht]
    refine ⟨fun q => by omega, fun _ => ⟨b1.tb ⟨by omega, hu⟩ (by omega), ⟨by omega, by omega⟩, fun q => c205L s1 hW hl (z := 46) (by decide) (fun w2 s2 h2 f2 => ⟨s2, ih (i + 1) (by omega) w2 s2 ?_ (hF.tr f2)⟩), fun q => c205L s1 hW hl (z := 111) (by decide) (fun w2 s2 h2 f2 => ⟨s2, ih (i + 1) (by omega) w2 s2 ?_ (hF.tr f2)⟩)⟩⟩
    · have e : tPin m u t (i + 1) = tPin m u t i ++ [46] := congrArg (fun z => tPin m u t i ++ [z]) (if_neg q)
      rw [e, ← List.append_assoc]
      exact h2
    · have e : tPin m u t (i + 1) = tPin m u t i ++ [111] := congrArg (fun z => tPin m u t i ++ [z]) (if_pos q)
      rw [e, ← List.append_assoc]
      exact h2
theorem c207 {w : PW} {Q : PO → PW → Prop} {m : Row} {x1 x2 : Int} (hs : Sh w) (hB : BR w 1 m) (hx1 : bd x1) (hx2 : bd x2) (h : ∀ w2, TO w (st207 m x1 x2).2 w2 → Q (st207 m x1 x2).1 w2) : pC 207 [.ref 0, iv x1, iv x2] w Q := by
  have h1 := hB.ok.u
  have h4 := hB.ok.t
  refine e207 hs hx1 hx2 ?_
  rw [hB.u, hB.t]
  refine ⟨⟨by omega, by omega⟩, fun q1 => ⟨fun q2 w3 e3 => ⟨⟨by omega, by omega⟩, ?_⟩, fun q2 => ap_f (ap_t h q1) q2 w rfl⟩, fun q1 => ap_f h q1 w rfl⟩
  have h2 := ap_t (ap_t h q1) q2
  obtain ⟨s3, L3, F3⟩ := wlStart hs e3
  obtain ⟨u, rfl⟩ := nat_of q1.1
  obtain ⟨t, rfl⟩ := nat_of q2.1
  have b3 := F3.br hB
  have hT := (hB.ok.T q2.2).1
  rw [Int.toNat_natCast, (b3.T q2.2).1, show rT m t 0 = (((rT m t 0).toNat : Nat) : Int) from by omega]
  have hp : (rT m t 0).toNat < 24 := by omega
  have hl := oPit_len hp
  refine c206 s3 L3 hp (by decide) (fun w4 s4 L4 F4 => ⟨s4, c205L s4 L4 (z := 58) (by rw [List.length_append]; show 0 + _ < 400; omega) (by decide) (fun w5 s5 L5 F5 => ⟨s5, ?_⟩)⟩)
  have b5 := (F3.tr (F4.tr F5)).br hB
  refine l207_45 (a := oPit (rT m t 0).toNat ++ [58]) s5 b5 q1.2 q2.2 (by rw [List.length_append]; show _ + 1 ≤ 10; omega) (fun w6 s6 F6 L6 => h2 w6 ⟨s6, F3.tr (F4.tr (F5.tr F6)), L6⟩) _ 0 (Nat.zero_add _) w5 s5 ?_ WF.rf
  show WL w5 ((oPit (rT m t 0).toNat ++ [58]) ++ [])
  rw [List.append_nil]
  exact L5
def tAdd (l : List Nat) (p : Nat) : Nat → List Nat
  | 0 => l
  | c + 1 => (if (tAdd l p c).length = 0 then tAdd l p c else tAdd l p c ++ [43]) ++ oPit p
theorem tAdd_len {l : List Nat} {p : Nat} (hp : p < 24) : ∀ c, (tAdd l p c).length ≤ l.length + 5 * c := by
  intro c
  induction c with
  | zero => exact Nat.le_refl _
  | succ c ih =>
    have := oPit_len hp
    show ((if (tAdd l p c).length = 0 then tAdd l p c else tAdd l p c ++ [43]) ++ oPit p).length ≤ _
    rw [List.length_append]
    split
    · omega
    · rw [List.length_append]
      show _ + 1 + _ ≤ _
      omega
def tRow (m : Row) (u s : Int) : Nat → List Nat
  | 0 => []
  | p + 1 => tAdd (tRow m u s p) p (sInRow m u p s 1)
theorem tRow_len (m : Row) (u s : Int) : ∀ p, p ≤ 24 → (tRow m u s p).length ≤ 5 * cnt (fun i => decide (rN m i 2 < (p : Int))) (m 5).toNat := by
  intro p
  induction p with
  | zero => intro _; exact Nat.zero_le _
  | succ p ih =>
    intro hp
    have h1 := ih (by omega)
    have h2 := tAdd_len (l := tRow m u s p) (p := p) (by omega) (sInRow m u p s 1)
    have h3 : sInRow m u p s 1 ≤ cnt (fun i => decide (rN m i 2 = (p : Int))) (m 5).toNat := by
      refine cnt_and_le (fun i _ q => ?_)
      unfold sRowP at q
      rw [Bool.and_eq_true] at q
      exact decide_eq_true (of_decide_eq_true q.1).2
    have h4 := cnt_or (P := fun i => decide (rN m i 2 < (p : Int))) (Q := fun i => decide (rN m i 2 = (p : Int))) (n := (m 5).toNat) (fun i _ q => decide_eq_false (by have := of_decide_eq_true q; omega))
    have h5 : cnt (fun i => decide (rN m i 2 < ((p + 1 : Nat) : Int))) (m 5).toNat = cnt (fun i => decide (rN m i 2 < (p : Int)) || decide (rN m i 2 = (p : Int))) (m 5).toNat := by
      refine cnt_congr (fun i _ => ?_)
      rw [← Bool.decide_or]
      exact decide_eq_decide.mpr ⟨fun z => by omega, fun z => by omega⟩
    show (tAdd (tRow m u s p) p (sInRow m u p s 1)).length ≤ _
    rw [h5]
    omega
theorem l209_42 {w : PW} {Q : PO → PW → Prop} {u s : Int} {p c : Nat} {l : List Nat} (hs : Sh w) (hu : bd u) (hS : bd s) (hp : p < 24) (hc : c ≤ 60) (hl : l.length + 5 * c ≤ 400) (h : ∀ w2, Sh w2 → WF w w2 → WL w2 (tAdd l p c) → pX 209 20 [some (.ref 0), some (iv u), some (iv s), some (iv ((p : Int) + 1)), some (iv (c : Nat)), some (iv (c : Nat))] [] w2 Q) : ∀ k i : Nat, i + k = c → ∀ w1, Sh w1 → WL w1 (tAdd l p i) → WF w w1 → pX 209 42 [some (.ref 0), some (iv u), some (iv s), some (iv (p : Nat)), some (iv (c : Nat)), some (iv (i : Nat))] [] w1 Q := by
  intro k
  induction k with
  | zero =>
    intro i hi w1 s1 hW hF
    refine v209_42 s1 hu hS (bdk (by omega)) (bdk (by omega)) (bdk (by omega)) ⟨fun _ => ?_, fun q => by omega⟩
    have e : i = c := by omega
    subst e
    exact h w1 s1 hF hW
  | succ k ih =>
    intro i hi w1 s1 hW hF
    have hn := tAdd_len (l := l) hp i
    refine v209_42 s1 hu hS (bdk (by omega)) (bdk (by omega)) (bdk (by omega)) ⟨fun q => by omega, fun _ => ?_⟩
    rw [hW.1]
    refine ⟨fun q => c206 s1 hW hp (by omega) (fun w2 s2 L2 F2 => ⟨s2, ih (i + 1) (by omega) w2 s2 ?_ (hF.tr F2)⟩), fun q => c205L s1 hW (z := 43) (by omega) (by decide) (fun w2 s2 L2 F2 => ⟨s2, c206 s2 L2 hp (by rw [List.length_append]; show _ + 1 + 4 ≤ 400; omega) (fun w3 s3 L3 F3 => ⟨s3, ih (i + 1) (by omega) w3 s3 ?_ (hF.tr (F2.tr F3))⟩)⟩)⟩
    · have e : tAdd l p (i + 1) = tAdd l p i ++ oPit p := by
        show (if (tAdd l p i).length = 0 then tAdd l p i else tAdd l p i ++ [43]) ++ oPit p = _
        rw [if_pos (by omega)]
      rw [e]
      exact L2
    · have e : tAdd l p (i + 1) = tAdd l p i ++ [43] ++ oPit p := by
        show (if (tAdd l p i).length = 0 then tAdd l p i else tAdd l p i ++ [43]) ++ oPit p = _
        rw [if_neg (by omega)]
      rw [e]
      exact L3
theorem l209_20 {w : PW} {Q : PO → PW → Prop} {u s : Int} {m : Row} (hs : Sh w) (hB : BR w 1 m) (hu : bd u) (hS : 0 ≤ s ∧ s < m 0) (h : ∀ w2, Sh w2 → WF w w2 → WL w2 (tRow m u s 24) → Q (rI ((tRow m u s 24).length : Nat)) w2) : ∀ k i : Nat, i + k = 24 → ∀ w1, Sh w1 → WL w1 (tRow m u s i) → WF w w1 → ∀ o4 o5 : Option Value, pc2 o4 = false → pc2 o5 = false → pX 209 20 [some (.ref 0), some (iv u), some (iv s), some (iv (i : Nat)), o4, o5] [] w1 Q := by
  have h0 := hB.ok.s
  have h5 := hB.ok.n
  intro k
  induction k with
  | zero =>
    intro i hi w1 s1 hW hF o4 o5 ho4 ho5
    refine v209_20 s1 hu ⟨by omega, by omega⟩ (bdk (by omega)) ho4 ho5 ⟨fun _ => ?_, fun q => by omega⟩
    rw [show i = 24 from by omega] at hW
    rw [hW.1]
    exact h w1 s1 hF hW
  | succ k ih =>
    intro i hi w1 s1 hW hF o4 o5 ho4 ho5
    have b1 := hF.br hB
    have hn := tRow_len m u s i (by omega)
    have hc : cnt (fun z => decide (rN m z 2 < (i : Int))) (m 5).toNat ≤ (m 5).toNat := cnt_le _ _
    have hn2 := tRow_len m u s (i + 1) (by omega)
    have hc2 : cnt (fun z => decide (rN m z 2 < ((i + 1 : Nat) : Int))) (m 5).toNat ≤ (m 5).toNat := cnt_le _ _
    have hr : sInRow m u (i : Nat) s 1 ≤ (m 5).toNat := cnt_le _ _
    have hb2 : cnt (fun z => decide (rN m z 2 < (i : Int))) (m 5).toNat + sInRow m u (i : Nat) s 1 ≤ (m 5).toNat := by
      have h3 : sInRow m u i s 1 ≤ cnt (fun z => decide (rN m z 2 = (i : Int))) (m 5).toNat := by
        refine cnt_and_le (fun z _ q => ?_)
        unfold sRowP at q
        rw [Bool.and_eq_true] at q
        exact decide_eq_true (of_decide_eq_true q.1).2
      have h4 := cnt_or (P := fun z => decide (rN m z 2 < (i : Int))) (Q := fun z => decide (rN m z 2 = (i : Int))) (n := (m 5).toNat) (fun z _ q => decide_eq_false (by have := of_decide_eq_true q; omega))
      have h5 := cnt_le (fun z => decide (rN m z 2 < (i : Int)) || decide (rN m z 2 = (i : Int))) (m 5).toNat
      omega
    refine v209_20 s1 hu ⟨by omega, by omega⟩ (bdk (by omega)) ho4 ho5 ⟨fun q => by omega, fun _ => ?_⟩
    refine c151 s1 b1 hu (bdk (by omega)) hS ⟨by decide, by decide⟩ (kI_iv (bdk (by omega)) ⟨s1, ?_⟩)
    exact l209_42 s1 hu ⟨by omega, by omega⟩ (by omega) (by omega) (by omega) (fun w2 s2 F2 L2 => ih (i + 1) (by omega) w2 s2 L2 (hF.tr F2) _ _ rfl rfl) _ 0 (Nat.zero_add _) w1 s1 hW WF.rf
def st209 (m : Row) (x1 x2 : Int) : PO × Option (List Nat) := aU m x1 (aP (0 ≤ x2 ∧ x2 < m 0) 1 (rI ((tRow m x1 x2 24).length : Nat), some (tRow m x1 x2 24)))
theorem c209 {w : PW} {Q : PO → PW → Prop} {m : Row} {x1 x2 : Int} (hs : Sh w) (hB : BR w 1 m) (hx1 : bd x1) (hx2 : bd x2) (h : ∀ w2, TO w (st209 m x1 x2).2 w2 → Q (st209 m x1 x2).1 w2) : pC 209 [.ref 0, iv x1, iv x2] w Q := by
  have h1 := hB.ok.u
  have h0 := hB.ok.s
  refine e209 hs hx1 hx2 ?_
  rw [hB.u, hB.s]
  refine ⟨⟨by omega, by omega⟩, fun q1 => ⟨⟨by omega, by omega⟩, fun q2 w3 e3 => ?_, fun q2 => ap_f (ap_t h q1) q2 w rfl⟩, fun q1 => ap_f h q1 w rfl⟩
  have h2 := ap_t (ap_t h q1) q2
  obtain ⟨s3, L3, F3⟩ := wlStart hs e3
  exact l209_20 s3 (F3.br hB) hx1 q2 (fun w6 s6 F6 L6 => h2 w6 ⟨s6, F3.tr F6, L6⟩) 24 0 rfl w3 s3 L3 WF.rf none none rfl rfl
