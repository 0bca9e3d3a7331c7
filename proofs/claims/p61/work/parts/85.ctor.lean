/-! CELLS AND SLOTS are made together -/
def SL (v v' : PW) : Prop := (v'.1 = v.1 ∧ v'.2.1 = v.2.1) ∨ v.1 < v'.1
theorem SL.rf {v : PW} : SL v v := Or.inl ⟨rfl, rfl⟩
theorem SL.tr {v v1 v2 : PW} (h1 : SL v v1) (h2 : SL v1 v2) : SL v v2 := by
  unfold SL at *
  omega
section SLS
variable {v v' : PW} {M ln : Nat} {i : Instr} {S S' : List Value}
theorem pld_sl (h : pld M i S v = some (ln, S', v')) : v' = v := by
  unfold pld at h
  split at h
  all_goals repeat' split at h
  all_goals first
    | (cases h; done)
    | (cases h; rfl)
theorem ppf_sl {a ci k : Nat} {y : Value} (h : ppf v a ci k y = some v') : v'.1 = v.1 ∧ v'.2.1 = v.2.1 := by
  unfold ppf at h
  split at h
  · split at h
    · cases h
      exact ⟨rfl, rfl⟩
    · cases h
  · cases h
theorem psw_sl (h : psw M i S v = some (ln, S', v')) : SL v v' := by
  unfold psw at h
  split at h
  all_goals repeat' split at h
  all_goals first
    | (cases h; done)
    | (cases h; exact Or.inl ⟨rfl, rfl⟩)
    | (cases h; exact Or.inr (Nat.lt_succ_self _))
    | (rename_i e; cases h; exact Or.inl (ppf_sl e))
theorem pcpy_sl {a0 a : Nat} {sp dp m : Int32} (h : pcpy v a0 a sp dp m = some v') : SL v v' := by
  unfold pcpy at h
  repeat' split at h
  all_goals first
    | (cases h; done)
    | (cases h; exact Or.inl ⟨rfl, rfl⟩)
theorem pnat_sl {k : Nat} (h : pnat M k S v = some (S', v')) : SL v v' := by
  unfold pnat at h
  split at h
  all_goals repeat' split at h
  all_goals first
    | (cases h; done)
    | (cases h; exact SL.rf)
    | (rename_i e; cases h; exact pcpy_sl e)
theorem pna_sl (h : pna M i S v = some (S', v')) : SL v v' := by
  unfold pna at h
  split at h
  all_goals repeat' split at h
  all_goals first
    | (cases h; done)
    | exact pnat_sl h
def zW : PF ⊕ PR → PW
  | .inl c => c.2.2.2
  | .inr r => r.2
theorem px_sl {call : Nat → List Value → PW → Option PR} (hc : ∀ M' av v r, call M' av v = some r → SL v r.2) {c : PF} {z : PF ⊕ PR} (h : px call M c = some z) : SL c.2.2.2 (zW z) := by
  unfold px at h
  split at h
  · cases h
  · split at h
    · repeat' split at h
      all_goals first
        | (cases h; done)
        | (cases h; exact SL.rf)
    · unfold pjp at h
      repeat' split at h
      all_goals first
        | (cases h; done)
        | (cases h; exact SL.rf)
    · split at h
      · rename_i e
        split at h
        · cases h
          show SL _ _
          rw [pld_sl e]
          exact SL.rf
        · cases h
      · cases h
    · split at h
      · rename_i e
        split at h
        · cases h
          exact psw_sl e
        · cases h
      · cases h
    · repeat' split at h
      all_goals first
        | (cases h; done)
        | (cases h; exact SL.rf)
    · split at h
      · split at h
        · rename_i M' args rest e
          cases hr : call M' args c.2.2.2 with
          | none => rw [hr] at h; cases h
          | some r =>
            have h3 := hc M' args _ r hr
            rw [hr] at h
            obtain ⟨o, v2⟩ := r
            cases o with
            | inl x =>
              cases h
              exact h3
            | inr E =>
              unfold pac at h
              dsimp only at h
              repeat' split at h
              all_goals first
                | (cases h; done)
                | (cases h; exact h3)
        · split at h
          · rename_i e
            cases h
            exact pna_sl e
          · cases h
      · cases h
    · split at h
      · split at h
        · rename_i e
          split at h
          · cases h
            exact psw_sl e
          · cases h
        · split at h
          · cases h
            exact SL.rf
          · cases h
      · cases h
theorem pex_sl {call : Nat → List Value → PW → Option PR} (hc : ∀ M' av v r, call M' av v = some r → SL v r.2) {r : PR} : ∀ (n : Nat) (c : PF), pex call n M c = some r → SL c.2.2.2 r.2 := by
  intro n
  induction n with
  | zero => intro c h; cases h
  | succ n ih =>
    intro c h
    unfold pex at h
    cases hx : px call M c with
    | none => rw [hx] at h; cases h
    | some z =>
      have h1 := px_sl hc hx
      rw [hx] at h
      cases z with
      | inl c' => exact SL.tr h1 (ih c' h)
      | inr r2 =>
        cases h
        exact h1
theorem prun_sl : ∀ (n M : Nat) (av : List Value) (v : PW) (r : PR), prun n M av v = some r → SL v r.2 := by
  intro n
  induction n with
  | zero => intro M av v r h; cases h
  | succ n ih =>
    intro M av v r h
    unfold prun at h
    split at h
    · exact pex_sl ih (n + 1) _ h
    · cases h
end SLS
/-! THE CONSTRUCTOR, run by the kernel over cells that don't change -/
def cDF : va_E := .inr (99, [])
def z0 : PW := (0, 0, fun c => if c < 169 then cDF else .inr (12345, []))
def z8 : PW := pnw z0 10 (.inr (7, oF 7))
def isDF (e : va_E) : Bool := match e with
  | .inr (99, []) => true
  | _ => false
theorem isDF_e {e : va_E} (h : isDF e = true) : e = cDF := by
  unfold isDF at h
  split at h
  · rfl
  · cases h
def chk8 (r : Option PR) : Bool := match r with
  | some (.inl none, w) => decide (w.1 = 169) && (decide (w.2.1 ≤ 10000) && ((List.range 169).all (fun a => decide (shp (w.2.2 a) = tb a)) && ((List.range 1).all (fun a => isDF cDF) &&
     (decide (gI w 1 0 = 8 ∧ gI w 1 1 = 1 ∧ gI w 1 2 = 0 ∧ gI w 1 3 = 1 ∧ gI w 1 4 = 0) && (decide (gI w 5 0 = 0) &&
     ((List.range 5).all (fun k => decide (gI w 9 k = 0)) && ((List.range 36).all (fun k => decide (gL w 4 k = 0)) &&
     (decide (gI w 27 1 = 0 ∧ gI w 27 2 = 0) && (decide (gI w 135 1 = 0 ∧ gI w 137 1 = 0) && (decide (gI w 134 0 = 0 ∧ gI w 134 1 = 0) && decide (gI w 0 8 = 0 ∧ gI w 0 9 = -1)))))))))))
  | _ => false
/-- what stands behind PinBarrel's constructor -/
def P8 (w : PW) : Prop := w.1 = 169 ∧ w.2.1 ≤ 10000 ∧ (∀ a, a < 169 → shp (w.2.2 a) = tb a) ∧ (∀ a, a < 1 → cDF = cDF) ∧
  (gI w 1 0 = 8 ∧ gI w 1 1 = 1 ∧ gI w 1 2 = 0 ∧ gI w 1 3 = 1 ∧ gI w 1 4 = 0) ∧ gI w 5 0 = 0 ∧ (∀ k, k < 5 → gI w 9 k = 0) ∧ (∀ k, k < 36 → gL w 4 k = 0) ∧
  (gI w 27 1 = 0 ∧ gI w 27 2 = 0) ∧ (gI w 135 1 = 0 ∧ gI w 137 1 = 0) ∧ (gI w 134 0 = 0 ∧ gI w 134 1 = 0) ∧ (gI w 0 8 = 0 ∧ gI w 0 9 = -1)
theorem all_r {n : Nat} {f : Nat → Bool} (h : (List.range n).all f = true) : ∀ k, k < n → f k = true := fun k hk => List.all_eq_true.mp h k (List.mem_range.mpr hk)
theorem chk8_e {r : Option PR} (h : chk8 r = true) : ∃ w, r = some (.inl none, w) ∧ P8 w := by
  unfold chk8 at h
  split at h
  · rename_i w
    simp only [Bool.and_eq_true] at h
    obtain ⟨h1, h2, h3, h4, h5, h6, h7, h8, h9, h10, h11, h12⟩ := h
    exact ⟨w, rfl, of_decide_eq_true h1, of_decide_eq_true h2, fun a ha => of_decide_eq_true (all_r h3 a ha), fun a ha => rfl, of_decide_eq_true h5, of_decide_eq_true h6, fun k hk => of_decide_eq_true (all_r h7 k hk), fun k hk => of_decide_eq_true (all_r h8 k hk), of_decide_eq_true h9, of_decide_eq_true h10, of_decide_eq_true h11, of_decide_eq_true h12⟩
  · cases h
theorem k8 : chk8 (prun 300 8 [.ref 0] z8) = true := by decide +kernel
/-! BEFORE THE LAW READS: what the constructor leaves -/
/-- nothing but the script and the text -/
def G1 (n : Nat) (f : Nat → Int32) (tx : List Nat) : Nat → va_E := fun c => if c = pSC then .inl (7, n, .inl f) else if c = pTX then .inr (98, pTf tx) else cDF
def W00 (n : Nat) (f : Nat → Int32) (tx : List Nat) : PW := (0, 0, G1 n f tx)
def P1 : Nat → Bool := fun c => decide (169 ≤ c)
theorem iw0 : IW P1 z0 := fun c hc => by
  have h : 169 ≤ c := of_decide_eq_true hc
  refine ⟨?_, Or.inr h⟩
  show (if c < 169 then cDF else .inr (12345, [])) = _
  rw [if_neg (by omega)]
theorem tw0 {n : Nat} {f : Nat → Int32} {tx : List Nat} : TW P1 (G1 n f tx) 0 z0 = W00 n f tx := by
  have e : (fun c => if P1 c = true then G1 n f tx c else z0.2.2 c) = G1 n f tx := by
    funext c
    by_cases q : P1 c = true
    · rw [if_pos q]
    · rw [if_neg q]
      have h : ¬ 169 ≤ c := fun z => q (decide_eq_true z)
      show (if c < 169 then cDF else .inr (12345, [])) = (if c = pSC then _ else if c = pTX then _ else cDF)
      rw [if_pos (by omega), if_neg (by have e : pSC = 2000000 := rfl; omega), if_neg (by have e : pTX = 1500000 := rfl; omega)]
  show (0, 0 + 0, fun c => if P1 c = true then G1 n f tx c else z0.2.2 c) = _
  rw [e]
  rfl
/-- PinBarrel's constructor -/
theorem w8 : ∃ v, P8 v ∧ ∀ (n : Nat) (f : Nat → Int32) (tx : List Nat), prun 300 8 [.ref 0] (pnw (W00 n f tx) 10 (.inr (7, oF 7))) = some (.inl none, TW P1 (G1 n f tx) 0 v) := by
  obtain ⟨v, h1, h2⟩ := chk8_e k8
  refine ⟨v, h2, fun n f tx => ?_⟩
  have hI : IW P1 z8 := iw_nw iw0 (by decide)
  have e : pnw (W00 n f tx) 10 (.inr (7, oF 7)) = TW P1 (G1 n f tx) 0 z8 := by
    rw [← tw0]
    exact tw_nw iw0 (by decide)
  rw [e]
  exact (prun_fr (G := G1 n f tx) (d := 0) 300 8 [.ref 0] z8 _ hI h1).1
/-- what is true before the text is put in -/
theorem li0 {v : PW} {n : Nat} {f : Nat → Int32} {tl : List Nat} (h8 : P8 v) : LI (TW P1 (G1 n f tl) 0 v) tl (fun _ => rBegin 8 1 0) 0 n f ∧ TX (TW P1 (G1 n f tl) 0 v) [] ∧ (TW P1 (G1 n f tl) 0 v).2.1 ≤ 10000 := by
  have hok : RowOK (rBegin 8 1 0) := rBegin_ok ⟨by decide, by decide⟩ ⟨by decide, by decide⟩ ⟨by decide, by decide⟩
  obtain ⟨a1, a2, a3, -, a5, a6, a7, a8, a9, a10, a11, a12⟩ := h8
  have zc : ∀ c, c < 169 → (TW P1 (G1 n f tl) 0 v).2.2 c = v.2.2 c := fun c hc => tw_c (decide_eq_false (by omega))
  have zp : ∀ c, 169 ≤ c → (TW P1 (G1 n f tl) 0 v).2.2 c = G1 n f tl c := fun c hc => if_pos (decide_eq_true hc)
  generalize hZ : TW P1 (G1 n f tl) 0 v = Z at zc zp ⊢
  have z1 : Z.1 = 169 := by rw [← hZ]; exact a1
  have z2 : Z.2.1 ≤ 10000 := by rw [← hZ]; exact a2
  have ci : ∀ c k, c < 169 → gI Z c k = gI v c k := fun c k hc => gI_cell (zc c hc) k
  have cl : ∀ c k, c < 169 → gL Z c k = gL v c k := fun c k hc => gL_cell (zc c hc) k
  have hs : Sh Z := by
    refine ⟨z1, fun a ha => ?_⟩
    by_cases q : a < 169
    · rw [zc a q]
      exact a3 a q
    · rw [zp a (by omega)]
      unfold G1
      rw [if_neg (by have e : pSC = 2000000 := rfl; omega), if_neg (by have e : pTX = 1500000 := rfl; omega)]
      have : ∀ a, a < 182 → 169 ≤ a → tb a = (0, 99, []) := by decide +kernel
      rw [this a ha (by omega)]
      rfl
  refine ⟨⟨hs, ?_, ⟨?_, by decide, 0, ?_, by decide, fun j hj => absurd hj (Nat.not_lt_zero j)⟩, ?_⟩, ⟨?_, by decide, fun k hk => absurd hk (Nat.not_lt_zero k)⟩, z2⟩
  · show Z.2.2 pTX = _
    rw [zp _ (by decide)]
    unfold G1
    rw [if_neg (by decide), if_pos rfl]
  · rw [ci 27 2 (by decide)]
    exact a9.2
  · rw [ci 27 1 (by decide)]
    exact a9.1
  · show Z.2.2 pSC = _
    rw [zp _ (by decide)]
    exact if_pos rfl
  · rw [ci 135 1 (by decide)]
    exact a10.1
