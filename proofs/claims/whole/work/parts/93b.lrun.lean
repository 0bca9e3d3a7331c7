/-! THE LAW'S OWN RUN: as pX, and from its loop's end it goes back to its head, j times at most -/
def lex (call : Nat → List Value → PW → Option PR) : Nat → Nat → Nat → PF → Option PR
  | 0, _, _, _ => none
  | n + 1, j, M, c => if M = 355 ∧ c.1 = 3569 then (match j with
      | 0 => none
      | j + 1 => lex call n j M (28, c.2)) else match px call M c with
    | none => none
    | some (.inl c') => lex call n j M c'
    | some (.inr r) => some r
theorem lex_mono {c1 c2 : Nat → List Value → PW → Option PR} (h : ∀ M a w r, c1 M a w = some r → c2 M a w = some r) {M : Nat} {r : PR} : ∀ {n n' : Nat}, n ≤ n' → ∀ {j : Nat} {c : PF}, lex c1 n j M c = some r → lex c2 n' j M c = some r := by
  intro n
  induction n with
  | zero => intro n' _ j c hz; exact absurd hz (by simp [lex])
  | succ n ih =>
    intro n' hn j c hz
    obtain ⟨k, rfl⟩ : ∃ k, n' = k + 1 := ⟨n' - 1, by omega⟩
    unfold lex at hz ⊢
    by_cases hb : M = 355 ∧ c.1 = 3569
    · rw [if_pos hb] at hz ⊢
      cases j with
      | zero => exact absurd hz (by simp)
      | succ j => exact ih (by omega) hz
    · rw [if_neg hb] at hz ⊢
      cases hx : px c1 M c with
      | none => rw [hx] at hz; exact absurd hz (by simp)
      | some z =>
        rw [hx] at hz
        rw [px_mono h hx]
        cases z with
        | inl c' => exact ih (by omega) hz
        | inr r' => exact hz
theorem lex_up {n n' : Nat} (h : n ≤ n') {j M : Nat} {c : PF} {r : PR} {k k' : Nat} (hk : k ≤ k') (hr : lex (prun n) k j M c = some r) : lex (prun n') k' j M c = some r :=
  lex_mono (fun _ _ _ _ hz => prun_mono h hz) hk hr
theorem dL_3569 : decode cL_law 3569 = .ok (.goto (-3541), 3) := by decide +kernel
theorem phL_no : ¬ (0 ≤ ((3569 : Nat) : Int) + (-3541) ∧ phi 355 (((3569 : Nat) : Int) + (-3541)).toNat ≤ phi 355 3569) := by decide +kernel
/-- the machine's own step stops there -/
theorem px_no (call : Nat → List Value → PW → Option PR) {c : PF} (h : c.1 = 3569) : px call 355 c = none := by
  have hB : mB 355 = cL_law := rfl
  unfold px
  rw [h, hB, dL_3569]
  show (match pb (.goto (-3541)) c.2.2.1 with
      | some (tk, off, ln, S) => if (ln = 3 ∨ ln = 0) ∧ 0 ≤ ((3569 : Nat) : Int) + off then (if tk = true then pjp 355 3569 off c.2.1 S c.2.2.2 else some (.inl (3569 + 3, c.2.1, S, c.2.2.2))) else none
      | none => none) = none
  have e : pb (.goto (-3541)) c.2.2.1 = some (true, -3541, 3, c.2.2.1) := rfl
  rw [e]
  dsimp only
  rw [if_pos ⟨Or.inl rfl, by decide⟩, if_pos rfl]
  unfold pjp
  rw [if_neg phL_no]
theorem lex_i {call : Nat → List Value → PW → Option PR} {n j M : Nat} {c c' : PF} (h : px call M c = some (.inl c')) : lex call (n + 1) j M c = lex call n j M c' := by
  have hn : ¬ (M = 355 ∧ c.1 = 3569) := fun q => by
    obtain ⟨rfl, q2⟩ := q
    rw [px_no call q2] at h
    cases h
  show (if M = 355 ∧ c.1 = 3569 then _ else _) = _
  rw [if_neg hn, h]
theorem lex_r {call : Nat → List Value → PW → Option PR} {n j M : Nat} {c : PF} {r : PR} (h : px call M c = some (.inr r)) : lex call (n + 1) j M c = some r := by
  have hn : ¬ (M = 355 ∧ c.1 = 3569) := fun q => by
    obtain ⟨rfl, q2⟩ := q
    rw [px_no call q2] at h
    cases h
  show (if M = 355 ∧ c.1 = 3569 then _ else _) = _
  rw [if_neg hn, h]
def yX (j M pc : Nat) (L : PL) (S : List Value) (w : PW) (Q : PO → PW → Prop) : Prop := ∃ n r, lex (prun n) n j M (pc, L, S, w) = some r ∧ Q r.1 r.2
def Rv (P Q : Prop) : Prop := Q → P
theorem Rv.mpr {P Q : Prop} (h : Rv P Q) (q : Q) : P := h q
section YXE
variable {M pc np : Nat} {cc : ByteArray} {i : Instr} {L L' : PL} {S S' : List Value} {w w' : PW} {ln j : Nat}
theorem yX_step {pc' : Nat} (h : ∀ call, px call M (pc, L, S, w) = some (.inl (pc', L', S', w'))) (Q : PO → PW → Prop) : Rv (yX j M pc L S w Q) (yX j M pc' L' S' w' Q) := fun ⟨n, r, hr, hq⟩ => by
  refine ⟨n + 1, r, ?_, hq⟩
  rw [lex_i (h _)]
  exact lex_up (Nat.le_succ _) (Nat.le_refl _) hr
theorem yX_end {r : PR} (h : ∀ call, px call M (pc, L, S, w) = some (.inr r)) (Q : PO → PW → Prop) : Rv (yX j M pc L S w Q) (Q r.1 r.2) := fun hq => by
  refine ⟨1, r, ?_, hq⟩
  rw [lex_r (h _)]
/-- back to the loop's head -/
theorem yX_back {Q : PO → PW → Prop} (h : yX j 355 28 L S w Q) : yX (j + 1) 355 3569 L S w Q := by
  obtain ⟨n, r, hr, hq⟩ := h
  refine ⟨n + 1, r, ?_, hq⟩
  unfold lex
  rw [if_pos ⟨rfl, rfl⟩]
  exact lex_up (Nat.le_succ _) (Nat.le_refl _) hr
/-- what goes on behind a call -/
def yK (j M pc np : Nat) (L : PL) (rest : List Value) (Q : PO → PW → Prop) : PO → PW → Prop := fun o w => match o with
  | .inl v => yX j M np L (v.toList ++ rest) w Q
  | .inr E => match phd M pc E with
    | some (h, loc, ln) => (pc + 3 ≤ h ∧ loc < L.length) ∧ yX j M (h + ln) ((pst1 L loc (.int 0)).set loc none) [] w Q
    | none => Q (.inr E) w
theorem yX_call {args rest : List Value} {M' : Nat} (hB : mB M = cc) (hd : decode cc pc = .ok (i, 3)) (hk : pkd i = 5) (hc : pcl M pc i S w = some (M', args, rest)) (hn : np = pc + 3) (Q : PO → PW → Prop) :
    Rv (yX j M pc L S w Q) (pC M' args w (yK j M pc np L rest Q)) := by
  subst hn
  have hx : ∀ call, px call M (pc, L, S, w) = pac M pc L rest (call M' args w) := by
    intro call
    unfold px
    simp only [hB, hd, hk, hc]
    simp
  rintro ⟨n, ⟨o, w1⟩, hr, hq⟩
  cases o with
  | inl v =>
    obtain ⟨n2, r2, hr2, hq2⟩ := hq
    refine ⟨n + n2 + 1, r2, ?_, hq2⟩
    have e : px (prun (n + n2 + 1)) M (pc, L, S, w) = some (.inl (pc + 3, L, v.toList ++ rest, w1)) := by
      rw [hx, prun_mono (show n ≤ n + n2 + 1 by omega) hr]
      rfl
    rw [lex_i e]
    exact lex_up (by omega) (by omega) hr2
  | inr E =>
    unfold yK at hq
    simp only at hq
    cases hh : phd M pc E with
    | none =>
      rw [hh] at hq
      refine ⟨n + 1, (.inr E, w1), ?_, hq⟩
      have e : px (prun (n + 1)) M (pc, L, S, w) = some (.inr (.inr E, w1)) := by
        rw [hx, prun_mono (show n ≤ n + 1 by omega) hr]
        simp only [pac, hh]
      rw [lex_r e]
    | some z =>
      obtain ⟨h, loc, ln⟩ := z
      rw [hh] at hq
      simp only at hq
      obtain ⟨hc2, n2, r2, hr2, hq2⟩ := hq
      refine ⟨n + n2 + 1, r2, ?_, hq2⟩
      have e : px (prun (n + n2 + 1)) M (pc, L, S, w) = some (.inl (h + ln, (pst1 L loc (.int 0)).set loc none, [], w1)) := by
        rw [hx, prun_mono (show n ≤ n + n2 + 1 by omega) hr]
        simp only [pac, hh]
        rw [if_pos hc2]
      rw [lex_i e]
      exact lex_up (by omega) (by omega) hr2
theorem yX_f (hB : mB M = cc) (hd : decode cc pc = .ok (i, ln)) (hk : pkd i = 0) (hf : pf i L S = some (ln, L', S')) (hn : np = pc + ln) (Q : PO → PW → Prop) : Rv (yX j M pc L S w Q) (yX j M np L' S' w Q) := by
  subst hn
  refine yX_step (fun call => ?_) Q
  unfold px
  simp only [hB, hd, hk, hf, if_true]
theorem yX_b {tk : Bool} {off : Int} {tgt : Nat} (hB : mB M = cc) (hd : decode cc pc = .ok (i, ln)) (hk : pkd i = 1) (hf : pb i S = some (tk, off, ln, S')) (hn : np = pc + ln) (ht : (pc : Int) + off = (tgt : Int)) (hp : phi M tgt ≤ phi M pc) (Q : PO → PW → Prop) : Rv (yX j M pc L S w Q) (if tk = true then yX j M tgt L S' w Q else yX j M np L S' w Q) := by
  subst hn
  have h0 : (ln = ln ∨ ln = 0) ∧ 0 ≤ (pc : Int) + off := ⟨Or.inl rfl, by rw [ht]; exact Int.natCast_nonneg _⟩
  cases tk with
  | true =>
    rw [if_pos rfl]
    refine yX_step (fun call => ?_) Q
    unfold px pjp
    simp [hB, hd, hk, hf, ht, hp]
  | false =>
    rw [if_neg (by decide)]
    refine yX_step (fun call => ?_) Q
    unfold px
    simp [hB, hd, hk, hf, ht]
theorem yX_j {off : Int} {tgt l0 : Nat} (hB : mB M = cc) (hd : decode cc pc = .ok (i, ln)) (hk : pkd i = 1) (hf : pb i S = some (true, off, l0, S')) (hl : l0 = ln ∨ l0 = 0) (ht : (pc : Int) + off = (tgt : Int)) (hp : phi M tgt ≤ phi M pc) (Q : PO → PW → Prop) : Rv (yX j M pc L S w Q) (yX j M tgt L S' w Q) := by
  have h0 : (l0 = ln ∨ l0 = 0) ∧ 0 ≤ (pc : Int) + off := ⟨hl, by rw [ht]; exact Int.natCast_nonneg _⟩
  refine yX_step (fun call => ?_) Q
  unfold px pjp
  simp [hB, hd, hk, hf, hl, ht, hp]
theorem yX_l (hB : mB M = cc) (hd : decode cc pc = .ok (i, ln)) (hk : pkd i = 2) (hf : pld M i S w = some (ln, S', w')) (hn : np = pc + ln) (Q : PO → PW → Prop) : Rv (yX j M pc L S w Q) (yX j M np L S' w' Q) := by
  subst hn
  refine yX_step (fun call => ?_) Q
  unfold px
  simp only [hB, hd, hk, hf, if_true]
theorem yX_s (hB : mB M = cc) (hd : decode cc pc = .ok (i, ln)) (hk : pkd i = 3) (hf : psw M i S w = some (ln, S', w')) (hn : np = pc + ln) (Q : PO → PW → Prop) : Rv (yX j M pc L S w Q) (yX j M np L S' w' Q) := by
  subst hn
  refine yX_step (fun call => ?_) Q
  unfold px
  simp only [hB, hd, hk, hf, if_true]
theorem yX_r {v : Option Value} (hB : mB M = cc) (hd : decode cc pc = .ok (i, 1)) (hk : pkd i = 4) (hf : prt M i S = some v) (Q : PO → PW → Prop) : Rv (yX j M pc L S w Q) (Q (.inl v) w) := by
  refine yX_end (r := (.inl v, w)) (fun call => ?_) Q
  unfold px
  simp only [hB, hd, hk, hf, if_true]
theorem yX_n (hB : mB M = cc) (hd : decode cc pc = .ok (i, 3)) (hk : pkd i = 5) (h0 : pcl M pc i S w = none) (hf : pna M i S w = some (S', w')) (hn : np = pc + 3) (Q : PO → PW → Prop) : Rv (yX j M pc L S w Q) (yX j M np L S' w' Q) := by
  subst hn
  refine yX_step (fun call => ?_) Q
  unfold px
  simp only [hB, hd, hk, h0, hf, if_true]
theorem yX_w {idx : Nat} (hB : mB M = cc) (hd : decode cc pc = .ok (.new idx, 3)) (hf : psw M (.new idx) S w = some (3, S', w')) (hn : np = pc + 3) (Q : PO → PW → Prop) : Rv (yX j M pc L S w Q) (yX j M np L S' w' Q) := by
  subst hn
  refine yX_step (fun call => ?_) Q
  unfold px
  simp only [hB, hd, pkd, hf, if_true]
end YXE
section YWS
variable {M pc np : Nat} {cc : ByteArray} {i : Instr} {L L' : PL} {S S' : List Value} {w w' : PW} {ln : Nat} {Q : PO → PW → Prop} {j : Nat}
theorem y_f (hB : mB M = cc) (hd : decode cc pc = .ok (i, ln)) (hk : pkd i = 0) (hf : pf i L S = some (ln, L', S')) (hn : np = pc + ln) (h : yX j M np L' S' w Q) : yX j M pc L S w Q := (yX_f hB hd hk hf hn Q).mpr h
theorem y_j {off : Int} {tgt : Nat} (hB : mB M = cc) (hd : decode cc pc = .ok (.goto off, 3)) (ht : (pc : Int) + off = (tgt : Int)) (hp : phi M tgt ≤ phi M pc) (h : yX j M tgt L S w Q) : yX j M pc L S w Q := (yX_j hB hd rfl rfl (Or.inl rfl) ht hp Q).mpr h
theorem y_br {tk : Bool} {off : Int} {tgt : Nat} (hB : mB M = cc) (hd : decode cc pc = .ok (i, 3)) (hk : pkd i = 1) (hf : pb i S = some (tk, off, 3, S')) (hn : np = pc + 3) (ht : (pc : Int) + off = (tgt : Int)) (hp : phi M tgt ≤ phi M pc) (h1 : tk = true → yX j M tgt L S' w Q) (h2 : tk = false → yX j M np L S' w Q) : yX j M pc L S w Q := by
  refine (yX_b hB hd hk hf hn ht hp Q).mpr ?_
  cases tk with
  | true => rw [if_pos rfl]; exact h1 rfl
  | false => rw [if_neg (by decide)]; exact h2 rfl
variable {x y : Int} {off : Int} {tgt : Nat}
theorem y_ifeq (hB : mB M = cc) (hd : decode cc pc = .ok (.ifCond .eq off, 3)) (hn : np = pc + 3) (ht : (pc : Int) + off = (tgt : Int)) (hp : phi M tgt ≤ phi M pc) (hx : bd x) (h1 : x = 0 → yX j M tgt L S w Q) (h2 : x ≠ 0 → yX j M np L S w Q) : yX j M pc L (iv x :: S) w Q :=
  y_br hB hd rfl rfl hn ht hp (fun q => h1 ((iv_eq hx bd0).mp (of_decide_eq_true q))) (fun q => h2 (mt (iv_eq hx bd0).mpr (of_decide_eq_false q)))
theorem y_ifne (hB : mB M = cc) (hd : decode cc pc = .ok (.ifCond .ne off, 3)) (hn : np = pc + 3) (ht : (pc : Int) + off = (tgt : Int)) (hp : phi M tgt ≤ phi M pc) (hx : bd x) (h1 : x ≠ 0 → yX j M tgt L S w Q) (h2 : x = 0 → yX j M np L S w Q) : yX j M pc L (iv x :: S) w Q :=
  y_br hB hd rfl rfl hn ht hp (fun q => h1 (mt (iv_eq hx bd0).mpr (of_decide_eq_true q))) (fun q => h2 ((iv_eq hx bd0).mp (Decidable.of_not_not (of_decide_eq_false q))))
theorem y_icgt (hB : mB M = cc) (hd : decode cc pc = .ok (.if_icmp .gt off, 3)) (hn : np = pc + 3) (ht : (pc : Int) + off = (tgt : Int)) (hp : phi M tgt ≤ phi M pc) (hx : bd x) (hy : bd y) (h1 : y < x → yX j M tgt L S w Q) (h2 : x ≤ y → yX j M np L S w Q) : yX j M pc L (iv y :: iv x :: S) w Q :=
  y_br hB hd rfl rfl hn ht hp (fun q => h1 ((iv_lt hy hx).mp (of_decide_eq_true q))) (fun q => h2 (by have := mt (iv_lt hy hx).mpr (of_decide_eq_false q); omega))
theorem y_iceq (hB : mB M = cc) (hd : decode cc pc = .ok (.if_icmp .eq off, 3)) (hn : np = pc + 3) (ht : (pc : Int) + off = (tgt : Int)) (hp : phi M tgt ≤ phi M pc) (hx : bd x) (hy : bd y) (h1 : x = y → yX j M tgt L S w Q) (h2 : x ≠ y → yX j M np L S w Q) : yX j M pc L (iv y :: iv x :: S) w Q :=
  y_br hB hd rfl rfl hn ht hp (fun q => h1 ((iv_eq hx hy).mp (of_decide_eq_true q))) (fun q => h2 (mt (iv_eq hx hy).mpr (of_decide_eq_false q)))
theorem y_tsO {d lo hi : Int} {offs : Array Int} (hB : mB M = cc) (hd : decode cc pc = .ok (.tableswitch d lo hi offs, ln)) (ht : (pc : Int) + d = (tgt : Int)) (hp : phi M tgt ≤ phi M pc) (hx : bd x) (ho : x < lo ∨ hi < x) (h : yX j M tgt L S w Q) : yX j M pc L (iv x :: S) w Q := by
  refine (yX_j hB hd rfl (l0 := 0) (off := d) (S' := S) ?_ (Or.inr rfl) ht hp Q).mpr h
  show (if (Int32.ofInt x).toInt < lo ∨ hi < (Int32.ofInt x).toInt then some (true, d, 0, S) else _) = _
  rw [toInt_iv hx, if_pos ho]
theorem y_tsI {d lo hi : Int} {offs : Array Int} (hB : mB M = cc) (hd : decode cc pc = .ok (.tableswitch d lo hi offs, ln)) (ht : (pc : Int) + off = (tgt : Int)) (hp : phi M tgt ≤ phi M pc) (hx : bd x) (h1 : ¬ (x < lo ∨ hi < x)) (ho : offs[(x - lo).toNat]? = some off) (h : yX j M tgt L S w Q) : yX j M pc L (iv x :: S) w Q := by
  refine (yX_j hB hd rfl (l0 := 0) (off := off) (S' := S) ?_ (Or.inr rfl) ht hp Q).mpr h
  show (if (Int32.ofInt x).toInt < lo ∨ hi < (Int32.ofInt x).toInt then some (true, d, 0, S) else match offs[((Int32.ofInt x).toInt - lo).toNat]? with | some off => some (true, off, 0, S) | none => none) = _
  rw [toInt_iv hx, if_neg h1, ho]
theorem y_lal {a n : Nat} {z : Int} (hB : mB M = cc) (hd : decode cc pc = .ok (.laload, 1)) (hn : np = pc + 1) (hs : Sh w) (ha : a < 182) (ht : tb a = (3, 1, [some n])) (hb : bd z) (hz : 0 ≤ z ∧ z < n) (h : yX j M np L (.long (gL w a z.toNat) :: S) w Q) : yX j M pc L (iv z :: .ref a :: S) w Q := by
  obtain ⟨f, hf⟩ := sh_long hs ha ht
  obtain ⟨h1, h2⟩ := iv_idx hb hz
  have e : gL w a z.toNat = f z.toNat := by unfold gL; rw [hf]
  rw [e, ← h2] at h
  refine (yX_l hB hd rfl (ln := 1) (w' := w) ?_ hn Q).mpr h
  unfold pld
  dsimp only
  unfold paL
  rw [hf]
  dsimp only
  rw [if_pos rfl]
  dsimp only
  rw [if_neg h1]
theorem y_ldcL {idx : Nat} {x : Int64} (hB : mB M = cc) (hd : decode cc pc = .ok (.ldc2_w idx, 3)) (hp : plk idx (kC (mC M)) = some (.long x)) (hn : np = pc + 3) (h : yX j M np L (.long x :: S) w Q) : yX j M pc L S w Q := by
  refine (yX_l hB hd rfl (ln := 3) (w' := w) (S' := .long x :: S) ?_ hn Q).mpr h
  unfold pld
  dsimp only
  rw [hp]
theorem y_rz {z : Int} (hB : mB M = cc) (hd : decode cc pc = .ok (.ireturn, 1)) (hr : mR M = some .boolean) (hz : z = 0 ∨ z = 1) (h : Q (.inl (some (iv z))) w) : yX j M pc L [iv z] w Q := by
  refine (yX_r hB hd rfl (v := some (iv z)) ?_ Q).mpr h
  unfold prt
  dsimp only
  rw [hr]
  dsimp only
  rw [if_pos]
  rcases hz with rfl | rfl
  · exact Or.inl (by decide)
  · exact Or.inr (by decide)
variable {M' : Nat} {args rest : List Value}
theorem y_c (hB : mB M = cc) (hd : decode cc pc = .ok (i, 3)) (hk : pkd i = 5) (hc : pcl M pc i S w = some (M', args, rest)) (hn : np = pc + 3) (K : PO → PW → Prop) (hK : ∀ o w', K o w' → yK j M pc np L rest Q o w') (h : pC M' args w K) : yX j M pc L S w Q :=
  (yX_call hB hd hk hc hn Q).mpr (pC_mono h hK)
theorem hY_I {k : Int → PW → Prop} (h : ∀ x w', bd x → k x w' → yX j M np L (iv x :: rest) w' Q) : ∀ o w', kI k o w' → yK j M pc np L rest Q o w' := by
  intro o w' hk
  match o, hk with
  | .inl (some (.int x)), hk =>
    have := h _ _ (bd_toInt x) hk
    rw [iv_toInt] at this
    exact this
theorem hY_X {K : PO → PW → Prop} (hH : mH M = []) (h : ∀ o w', K o w' → yK j M pc np L rest Q o w') : ∀ o w', kX K Q o w' → yK j M pc np L rest Q o w' := by
  intro o w' hk
  match o, hk with
  | .inl v, hk => exact h _ _ hk
  | .inr E, hk =>
    show (match phd M pc E with | some (h, loc, ln) => (pc + 3 ≤ h ∧ loc < L.length) ∧ yX j M (h + ln) ((pst1 L loc (.int 0)).set loc none) [] w' Q | none => Q (.inr E) w')
    unfold phd
    rw [hH]
    exact hk
theorem y_cc {args : List Value} (hB : mB M = cc) (hd : decode cc pc = .ok (i, 3)) (hk : pkd i = 5) (hc : pcl M pc i S w = some (M', args, rest)) (hn : np = pc + 3) (h : pC M' args w (yK j M pc np L rest Q)) : yX j M pc L S w Q := (yX_call hB hd hk hc hn Q).mpr h
theorem y_scl {sn : Nat} {sf : Nat → Int32} {z : Int} (hB : mB M = cc) (hd : decode cc pc = .ok (.iaload, 1)) (hn : np = pc + 1) (hS : Sc w sn sf) (hb : bd z) (hz : 0 ≤ z ∧ z < sn) (h : yX j M np L (iv (sf z.toNat).toInt :: S) w Q) : yX j M pc L (iv z :: .ref pSC :: S) w Q := by
  obtain ⟨h1, h2⟩ := iv_idx hb hz
  have e0 : pai w pSC 0 = none := by unfold pai; rw [hS]; rfl
  have e7 : pai w pSC 7 = some (sn, sf) := by unfold pai; rw [hS]; rfl
  rw [iv_toInt, ← h2] at h
  refine (yX_l hB hd rfl (ln := 1) (w' := w) ?_ hn Q).mpr h
  unfold pld
  dsimp only
  rw [e0]
  dsimp only
  rw [e7]
  dsimp only
  rw [if_neg h1]
theorem y_scn {sn : Nat} {sf : Nat → Int32} (hB : mB M = cc) (hd : decode cc pc = .ok (.arraylength, 1)) (hn : np = pc + 1) (hS : Sc w sn sf) (h : yX j M np L (iv sn :: S) w Q) : yX j M pc L (.ref pSC :: S) w Q := by
  have e : iv (sn : Int) = .int (Int32.ofNat sn) := congrArg Value.int Int32.ofInt_eq_ofNat
  rw [e] at h
  refine (yX_l hB hd rfl (ln := 1) (w' := w) ?_ hn Q).mpr h
  unfold pld
  dsimp only
  unfold pal
  rw [hS]
theorem y_dal {a n : Nat} {z : Int} (hB : mB M = cc) (hd : decode cc pc = .ok (.daload, 1)) (hn : np = pc + 1) (hs : Sh w) (ha : a < 182) (ht : tb a = (5, 5, [some n])) (hb : bd z) (hz : 0 ≤ z ∧ z < n) (h : yX j M np L (.double (gD w a z.toNat) :: S) w Q) : yX j M pc L (iv z :: .ref a :: S) w Q := by
  obtain ⟨f, hf⟩ := sh_dbl hs ha ht
  obtain ⟨h1, h2⟩ := iv_idx hb hz
  have e : gD w a z.toNat = f z.toNat := by unfold gD; rw [hf]
  rw [e, ← h2] at h
  refine (yX_l hB hd rfl (ln := 1) (w' := w) ?_ hn Q).mpr h
  unfold pld
  dsimp only
  unfold paD
  rw [hf]
  dsimp only
  rw [if_pos rfl]
  dsimp only
  rw [if_neg h1]
theorem hY_D {k : UInt64 → PW → Prop} (h : ∀ x w', k x w' → yX j M np L (.double x :: rest) w' Q) : ∀ o w', kD k o w' → yK j M pc np L rest Q o w' := by
  intro o w' hk
  match o, hk with
  | .inl (some (.double x)), hk => exact h _ _ hk
theorem hY_Fl {k : UInt32 → PW → Prop} (h : ∀ x w', k x w' → yX j M np L (.float x :: rest) w' Q) : ∀ o w', kFl k o w' → yK j M pc np L rest Q o w' := by
  intro o w' hk
  match o, hk with
  | .inl (some (.float x)), hk => exact h _ _ hk
end YWS
