/-! CELLS THAT A RUN CANNOT SEE -/
section FRM
variable {P : Nat → Bool} {G : Nat → va_E} {d : Nat} {v v' : PW} {M ln a n t k ci : Nat} {e : va_E}
/-- the world with other cells where P says so, and with more slots -/
def TW (P : Nat → Bool) (G : Nat → va_E) (d : Nat) (v : PW) : PW := (v.1, v.2.1 + d, fun c => if P c = true then G c else v.2.2 c)
def IW (P : Nat → Bool) (v : PW) : Prop := ∀ c, P c = true → v.2.2 c = .inr (12345, []) ∧ (c < v.1 ∨ pNA ≤ c)
theorem tw_c (h : P a = false) : (TW P G d v).2.2 a = v.2.2 a := by
  show (if P a = true then G a else v.2.2 a) = _
  rw [h, if_neg (by decide)]
theorem bF {x : Bool} (h : x = true → False) : x = false := by
  cases x with
  | true => exact absurd rfl h
  | false => rfl
theorem tw_up (h : P a = false) : pup (TW P G d v) a e = TW P G d (pup v a e) := by
  have : va_up (TW P G d v).2.2 a e = fun c => if P c = true then G c else (va_up v.2.2 a e) c := by
    funext c
    show (if c = a then e else if P c = true then G c else v.2.2 c) = (if P c = true then G c else if c = a then e else v.2.2 c)
    by_cases q : c = a
    · subst q
      rw [h, if_pos rfl, if_neg (by decide), if_pos rfl]
    · rw [if_neg q, if_neg q]
  unfold pup
  rw [this]
  rfl
theorem iw_at (hI : IW P v) : P v.1 = false ∨ pNA ≤ v.1 := by
  by_cases q : P v.1 = true
  · rcases (hI _ q).2 with z | z
    · exact absurd z (Nat.lt_irrefl _)
    · exact Or.inr z
  · exact Or.inl (bF q)
theorem tw_nw (hI : IW P v) (h : v.1 < pNA) : pnw (TW P G d v) n e = TW P G d (pnw v n e) := by
  have hp : P v.1 = false := by
    rcases iw_at hI with z | z
    · exact z
    · omega
  have : va_up (TW P G d v).2.2 v.1 e = fun c => if P c = true then G c else (va_up v.2.2 v.1 e) c := by
    funext c
    show (if c = v.1 then e else if P c = true then G c else v.2.2 c) = (if P c = true then G c else if c = v.1 then e else v.2.2 c)
    by_cases q : c = v.1
    · rw [q, hp, if_pos rfl, if_neg (by decide), if_pos rfl]
    · rw [if_neg q, if_neg q]
  show (v.1 + 1, v.2.1 + d + n, va_up (TW P G d v).2.2 v.1 e) = (v.1 + 1, v.2.1 + n + d, _)
  rw [this, Nat.add_right_comm]
  rfl
theorem iw_up (hI : IW P v) (h : P a = false) : IW P (pup v a e) := fun c hc => by
  refine ⟨?_, (hI c hc).2⟩
  show (if c = a then e else v.2.2 c) = _
  rw [if_neg (fun q => by rw [q, h] at hc; cases hc)]
  exact (hI c hc).1
theorem iw_nw (hI : IW P v) (h : v.1 < pNA) : IW P (pnw v n e) := fun c hc => by
  have hp : P v.1 = false := by
    rcases iw_at hI with z | z
    · exact z
    · omega
  refine ⟨?_, ?_⟩
  · show (if c = v.1 then e else v.2.2 c) = _
    rw [if_neg (fun q => by rw [q, hp] at hc; cases hc)]
    exact (hI c hc).1
  · show c < v.1 + 1 ∨ _
    rcases (hI c hc).2 with z | z
    · exact Or.inl (by omega)
    · exact Or.inr z
theorem np_pai (hI : IW P v) {x} (h : pai v a t = some x) : P a = false := bF fun q => by
  unfold pai at h
  rw [(hI a q).1] at h
  cases h
theorem np_paL (hI : IW P v) {x} (h : paL v a = some x) : P a = false := bF fun q => by
  unfold paL at h
  rw [(hI a q).1] at h
  cases h
theorem np_paQ (hI : IW P v) {x} (h : paQ v a = some x) : P a = false := bF fun q => by
  unfold paQ at h
  rw [(hI a q).1] at h
  cases h
theorem np_pal (hI : IW P v) {x} (h : pal v a = some x) : P a = false := bF fun q => by
  unfold pal at h
  rw [(hI a q).1] at h
  cases h
theorem np_pgf (hI : IW P v) {x} (h : pgf v a ci k = some x) : P a = false := bF fun q => by
  unfold pgf at h
  rw [(hI a q).1] at h
  dsimp only at h
  split at h
  · cases h
  · cases h
theorem np_ppf (hI : IW P v) {x y} (h : ppf v a ci k y = some x) : P a = false := bF fun q => by
  unfold ppf at h
  rw [(hI a q).1] at h
  dsimp only at h
  split at h
  · rename_i z
    exact absurd z.2 (Nat.not_lt_zero _)
  · cases h
theorem np_ob (hI : IW P v) (hc : ci ≠ 12345) (h : isOb v a ci = true) : P a = false := bF fun q => by
  unfold isOb at h
  rw [(hI a q).1] at h
  exact hc (Nat.eq_of_beq_eq_true h).symm
theorem tw_pai (h : P a = false) : pai (TW P G d v) a t = pai v a t := by unfold pai; rw [tw_c h]
theorem tw_paL (h : P a = false) : paL (TW P G d v) a = paL v a := by unfold paL; rw [tw_c h]
theorem tw_paQ (h : P a = false) : paQ (TW P G d v) a = paQ v a := by unfold paQ; rw [tw_c h]
theorem tw_pal (h : P a = false) : pal (TW P G d v) a = pal v a := by unfold pal; rw [tw_c h]
theorem tw_pgf (h : P a = false) : pgf (TW P G d v) a ci k = pgf v a ci k := by unfold pgf; rw [tw_c h]
theorem tw_ob (h : P a = false) : isOb (TW P G d v) a ci = isOb v a ci := by unfold isOb; rw [tw_c h]
theorem tw_ppf (hI : IW P v) {y} (h : ppf v a ci k y = some v') : ppf (TW P G d v) a ci k y = some (TW P G d v') ∧ IW P v' := by
  have hp := np_ppf hI h
  unfold ppf at h ⊢
  rw [tw_c hp]
  cases hc : v.2.2 a with
  | inl x => rw [hc] at h; cases h
  | inr x =>
    obtain ⟨c, fs⟩ := x
    rw [hc] at h
    dsimp only at h ⊢
    split at h
    · rename_i q
      rw [if_pos q, tw_up hp]
      cases h
      exact ⟨rfl, iw_up hI hp⟩
    · cases h
theorem bT {x : Bool} (h : x = false → False) : x = true := by
  cases x with
  | true => rfl
  | false => exact absurd rfl h
theorem pld_fr (hI : IW P v) {i : Instr} {S S' : List Value} (h : pld M i S v = some (ln, S', v')) : pld M i S (TW P G d v) = some (ln, S', TW P G d v') ∧ IW P v' := by
  unfold pld at h ⊢
  split at h
  · split at h
    · split at h
      · rename_i e
        rw [tw_pai (np_pai hI e), e]
        dsimp only
        split at h
        · cases h
        · rename_i q
          rw [if_neg q]
          cases h
          exact ⟨rfl, hI⟩
      · split at h
        · rename_i e0 _ _ _ e
          have hp := np_pai hI e
          rw [tw_pai hp, e0, tw_pai hp, e]
          dsimp only
          split at h
          · cases h
          · rename_i q
            rw [if_neg q]
            cases h
            exact ⟨rfl, hI⟩
        · cases h
    · cases h
  · split at h
    · split at h
      · rename_i e
        rw [tw_pai (np_pai hI e), e]
        dsimp only
        split at h
        · cases h
        · rename_i q
          rw [if_neg q]
          cases h
          exact ⟨rfl, hI⟩
      · cases h
    · cases h
  · split at h
    · split at h
      · rename_i e
        rw [tw_pai (np_pai hI e), e]
        dsimp only
        split at h
        · cases h
        · rename_i q
          rw [if_neg q]
          cases h
          exact ⟨rfl, hI⟩
      · split at h
        · rename_i e0 _ _ _ e
          have hp := np_pai hI e
          rw [tw_pai hp, e0, tw_pai hp, e]
          dsimp only
          split at h
          · cases h
          · rename_i q
            rw [if_neg q]
            cases h
            exact ⟨rfl, hI⟩
        · cases h
    · cases h
  · split at h
    · split at h
      · rename_i e
        rw [tw_paL (np_paL hI e), e]
        dsimp only
        split at h
        · cases h
        · rename_i q
          rw [if_neg q]
          cases h
          exact ⟨rfl, hI⟩
      · cases h
    · cases h
  · split at h
    · split at h
      · rename_i e
        rw [tw_paQ (np_paQ hI e), e]
        dsimp only
        split at h
        · cases h
        · rename_i q
          rw [if_neg q]
          cases h
          exact ⟨rfl, hI⟩
      · cases h
    · cases h
  · split at h
    · split at h
      · rename_i e
        rw [tw_pal (np_pal hI e), e]
        cases h
        exact ⟨rfl, hI⟩
      · cases h
    · cases h
  · split at h
    · rename_i e
      cases h
      exact ⟨rfl, hI⟩
    · rename_i e
      cases h
      exact ⟨rfl, hI⟩
    · cases h
  · split at h
    · rename_i e
      cases h
      exact ⟨rfl, hI⟩
    · cases h
  · split at h
    · rename_i e
      cases h
      exact ⟨rfl, hI⟩
    · cases h
  · split at h
    · split at h
      · rename_i e0
        split at h
        · rename_i e
          try rw [e0]
          try dsimp only
          rw [tw_pgf (np_pgf hI e), e]
          cases h
          exact ⟨rfl, hI⟩
        · cases h
      · cases h
    · cases h
  · cases h
theorem psw_fr (hI : IW P v) {i : Instr} {S S' : List Value} (h : psw M i S v = some (ln, S', v')) : psw M i S (TW P G d v) = some (ln, S', TW P G d v') ∧ IW P v' := by
  unfold psw at h ⊢
  split at h
  · split at h
    · split at h
      · rename_i e
        have hp := np_pai hI e
        rw [tw_pai hp, e]
        dsimp only
        split at h
        · cases h
        · rename_i q
          rw [if_neg q, tw_up hp]
          cases h
          exact ⟨rfl, iw_up hI hp⟩
      · cases h
    · cases h
  · split at h
    · split at h
      · rename_i e
        have hp := np_pai hI e
        rw [tw_pai hp, e]
        dsimp only
        split at h
        · cases h
        · rename_i q
          rw [if_neg q, tw_up hp]
          cases h
          exact ⟨rfl, iw_up hI hp⟩
      · cases h
    · cases h
  · split at h
    · split at h
      · rename_i e
        have hp := np_pai hI e
        rw [tw_pai hp, e]
        dsimp only
        split at h
        · cases h
        · rename_i q
          rw [if_neg q, tw_up hp]
          cases h
          exact ⟨rfl, iw_up hI hp⟩
      · split at h
        · rename_i e0 _ _ _ e
          have hp := np_pai hI e
          rw [tw_pai hp, e0, tw_pai hp, e]
          dsimp only
          split at h
          · cases h
          · rename_i q
            rw [if_neg q, tw_up hp]
            cases h
            exact ⟨rfl, iw_up hI hp⟩
        · cases h
    · cases h
  · split at h
    · split at h
      · rename_i e
        have hp := np_paL hI e
        rw [tw_paL hp, e]
        dsimp only
        split at h
        · cases h
        · rename_i q
          rw [if_neg q, tw_up hp]
          cases h
          exact ⟨rfl, iw_up hI hp⟩
      · cases h
    · cases h
  · split at h
    · split at h
      · rename_i e
        have hp := np_paQ hI e
        rw [tw_paQ hp, e]
        dsimp only
        split at h
        · cases h
        · rename_i q
          have ho := bT (fun z => q (Or.inl z))
          rw [tw_ob (np_ob hI (by decide) ho), if_neg q, tw_up hp]
          cases h
          exact ⟨rfl, iw_up hI hp⟩
      · cases h
    · cases h
  · split at h
    · split at h
      · rename_i e0
        split at h
        · rename_i q
          split at h
          · rename_i e
            try rw [e0]
            try dsimp only
            rw [if_pos q, (tw_ppf hI e).1]
            cases h
            exact ⟨rfl, (tw_ppf (P := P) (G := G) (d := d) hI e).2⟩
          · cases h
        · cases h
      · cases h
    · cases h
  · split at h
    · split at h
      · rename_i q
        rw [if_pos (show (TW P G d v).1 < pNA ∧ _ from q)]
        split at h
        all_goals first
          | (cases h; exact ⟨congrArg some (congrArg (Prod.mk 2) (congrArg (Prod.mk _) (tw_nw hI q.1))), iw_nw hI q.1⟩)
          | cases h
      · cases h
    · cases h
  · split at h
    · split at h
      · rename_i q
        rw [if_pos (show _ ∧ (TW P G d v).1 < pNA ∧ _ from q)]
        cases h
        exact ⟨congrArg some (congrArg (Prod.mk 3) (congrArg (Prod.mk _) (tw_nw hI q.2.1))), iw_nw hI q.2.1⟩
      · cases h
    · cases h
  · split at h
    · rename_i e0
      split at h
      · rename_i q
        try rw [e0]
        try dsimp only
        rw [if_pos (show (TW P G d v).1 < pNA from q)]
        cases h
        exact ⟨congrArg some (congrArg (Prod.mk 3) (congrArg (Prod.mk _) (tw_nw hI q))), iw_nw hI q⟩
      · cases h
    · cases h
  · cases h
theorem mI_le : ∀ k : Nat, List.getD [0, 1, 2, 3, 4, 99, 5, 6, 7] k 99 ≤ 99
  | 0 => by decide
  | 1 => by decide
  | 2 => by decide
  | 3 => by decide
  | 4 => by decide
  | 5 => by decide
  | 6 => by decide
  | 7 => by decide
  | 8 => by decide
  | _ + 9 => Nat.le_refl _
theorem mI_ne (M : Nat) : mI M ≠ 12345 := by
  have := mI_le (mC M)
  unfold mI
  omega
theorem pcl_fr (hI : IW P v) {i : Instr} {S : List Value} {pc : Nat} {z} (h : pcl M pc i S v = some z) : pcl M pc i S (TW P G d v) = some z := by
  unfold pcl at h ⊢
  split at h
  · split at h
    · split at h
      · split at h
        · rename_i q
          rw [if_pos ⟨q.1, by rw [tw_ob (np_ob hI (mI_ne _) q.2.1)]; exact q.2.1, q.2.2⟩]
          exact h
        · cases h
      · cases h
    · cases h
  · split at h
    · split at h
      · split at h
        · rename_i q
          rw [if_pos ⟨q.1, by rw [tw_ob (np_ob hI (mI_ne _) q.2.1)]; exact q.2.1, q.2.2⟩]
          exact h
        · cases h
      · cases h
    · split at h
      · split at h
        · rename_i q
          rw [if_pos ⟨q.1, by rw [tw_ob (np_ob hI (mI_ne _) q.2.1)]; exact q.2.1, q.2.2⟩]
          exact h
        · cases h
      · cases h
    · cases h
  · exact h
  · cases h
theorem pna_no {i : Instr} {S S' : List Value} {pc : Nat} {w : PW} (h : pna M i S v = some (S', v')) : pcl M pc i S w = none := by
  unfold pna at h
  split at h
  · split at h
    · rename_i e
      split at h
      · rename_i q
        unfold pcl
        dsimp only
        rw [e]
        try dsimp only
        rcases q with rfl | rfl <;> rfl
      · cases h
    · cases h
  · split at h
    · rename_i e
      split at h
      · rename_i q
        unfold pcl
        dsimp only
        rw [e]
        subst q
        rfl
      · cases h
    · cases h
  · split at h
    · rename_i e
      split at h
      · rename_i q
        unfold pcl
        dsimp only
        rw [e]
        rcases q with rfl | rfl | rfl | rfl <;> rfl
      · cases h
    · cases h
  · cases h
theorem pcpy_fr (hI : IW P v) {a0 : Nat} {sp dp m : Int32} (h : pcpy v a0 a sp dp m = some v') : pcpy (TW P G d v) a0 a sp dp m = some (TW P G d v') ∧ IW P v' := by
  unfold pcpy at h ⊢
  split at h
  · cases h
  · rename_i q
    rw [if_neg q]
    split at h
    · rename_i e
      split at h
      · rename_i e2
        have hp := np_pai hI e2
        rw [tw_pai (np_pai hI e), e]
        dsimp only
        rw [tw_pai hp, e2]
        dsimp only
        split at h
        · rename_i q2
          rw [if_pos q2, tw_up hp]
          cases h
          exact ⟨rfl, iw_up hI hp⟩
        · cases h
      · cases h
    · rename_i e0
      split at h
      · rename_i e
        split at h
        · rename_i e2
          have hp := np_paL hI e2
          have hp0 := np_paL hI e
          rw [tw_pai hp0, e0]
          dsimp only
          rw [tw_paL hp0, e]
          dsimp only
          rw [tw_paL hp, e2]
          dsimp only
          split at h
          · rename_i q2
            rw [if_pos q2, tw_up hp]
            cases h
            exact ⟨rfl, iw_up hI hp⟩
          · cases h
        · cases h
      · cases h
theorem np_ptx (hI : IW P v) {x} (h : ptx v a = some x) : P a = false := bF fun q => by
  unfold ptx at h
  rw [(hI a q).1] at h
  dsimp only at h
  rw [if_neg (fun z => absurd z.1 (by decide))] at h
  cases h
theorem tw_ptx (h : P a = false) : ptx (TW P G d v) a = ptx v a := by unfold ptx; rw [tw_c h]
theorem pnat_fr (hI : IW P v) {S S' : List Value} (h : pnat M k S v = some (S', v')) : pnat M k S (TW P G d v) = some (S', TW P G d v') ∧ IW P v' := by
  unfold pnat at h ⊢
  split at h
  · split at h
    · split at h
      · rename_i q
        try rw [if_pos q]
        cases h
        exact ⟨rfl, hI⟩
      · cases h
    · cases h
  · split at h
    · split at h
      · rename_i q
        try rw [if_pos q]
        cases h
        exact ⟨rfl, hI⟩
      · cases h
    · cases h
  · split at h
    · split at h
      · rename_i q
        try rw [if_pos q]
        cases h
        exact ⟨rfl, hI⟩
      · cases h
    · cases h
  · split at h
    · split at h
      · rename_i q
        try rw [if_pos q]
        split at h
        · rename_i e
          have := pcpy_fr (G := G) (d := d) hI e
          rw [this.1]
          cases h
          exact ⟨rfl, this.2⟩
        · cases h
      · cases h
    · cases h
  · split at h
    · try dsimp only
      split at h
      · rename_i q
        rw [if_pos q]
        cases h
        exact ⟨rfl, hI⟩
      · rename_i q
        rw [if_neg q]
        split at h
        · rename_i e
          rw [tw_ptx (np_ptx hI e), e]
          dsimp only
          split at h
          · rename_i q2
            rw [if_pos q2]
            cases h
            exact ⟨rfl, hI⟩
          · cases h
        · cases h
    · cases h
  · split at h
    · try dsimp only
      split at h
      · rename_i q
        rw [if_pos q]
        cases h
        exact ⟨rfl, hI⟩
      · rename_i q
        rw [if_neg q]
        split at h
        · rename_i e
          rw [tw_ptx (np_ptx hI e), e]
          dsimp only
          split at h
          · rename_i q2
            rw [if_pos q2]
            cases h
            exact ⟨rfl, hI⟩
          · cases h
        · cases h
    · cases h
  · split at h
    · split at h
      · rename_i q
        try rw [if_pos q]
        cases h
        exact ⟨rfl, hI⟩
      · cases h
    · cases h
  · cases h
theorem pna_fr (hI : IW P v) {i : Instr} {S S' : List Value} (h : pna M i S v = some (S', v')) : pna M i S (TW P G d v) = some (S', TW P G d v') ∧ IW P v' := by
  unfold pna at h ⊢
  split at h
  all_goals first
    | (split at h
       · split at h
         · rename_i q
           try rw [if_pos q]
           exact pnat_fr hI h
         · cases h
       · cases h)
    | cases h
theorem pth_fr {i : Instr} {S : List Value} {pc : Nat} : pth M pc i S (TW P G d v) = pth M pc i S v := rfl
def TZ (P : Nat → Bool) (G : Nat → va_E) (d : Nat) (z : PF ⊕ PR) : PF ⊕ PR := match z with
  | .inl c => .inl (c.1, c.2.1, c.2.2.1, TW P G d c.2.2.2)
  | .inr r => .inr (r.1, TW P G d r.2)
def IZ (P : Nat → Bool) (z : PF ⊕ PR) : Prop := match z with
  | .inl c => IW P c.2.2.2
  | .inr r => IW P r.2
theorem px_fr {c1 c2 : Nat → List Value → PW → Option PR} (hc : ∀ M' av v r, IW P v → c1 M' av v = some r → c2 M' av (TW P G d v) = some (r.1, TW P G d r.2) ∧ IW P r.2) {pc : Nat} {L : PL} {S : List Value} {z : PF ⊕ PR} (hI : IW P v) (h : px c1 M (pc, L, S, v) = some z) : px c2 M (pc, L, S, TW P G d v) = some (TZ P G d z) ∧ IZ P z := by
  unfold px at h ⊢
  dsimp only at h ⊢
  split at h
  · cases h
  · rename_i i len hd
    try rw [hd]
    try dsimp only
    split at h
    · split at h
      · rename_i e
        try rw [e]
        try dsimp only
        split at h
        · rename_i q
          try rw [if_pos q]
          cases h
          exact ⟨rfl, hI⟩
        · cases h
      · cases h
    · split at h
      · rename_i e
        try rw [e]
        try dsimp only
        split at h
        · rename_i q
          try rw [if_pos q]
          split at h
          · rename_i q2
            try rw [if_pos q2]
            unfold pjp at h ⊢
            split at h
            · rename_i q3
              try rw [if_pos q3]
              cases h
              exact ⟨rfl, hI⟩
            · cases h
          · rename_i q2
            try rw [if_neg q2]
            cases h
            exact ⟨rfl, hI⟩
        · cases h
      · cases h
    · split at h
      · rename_i e
        have := pld_fr (G := G) (d := d) hI e
        rw [this.1]
        try dsimp only
        split at h
        · rename_i q
          try rw [if_pos q]
          cases h
          exact ⟨rfl, this.2⟩
        · cases h
      · cases h
    · split at h
      · rename_i e
        have := psw_fr (G := G) (d := d) hI e
        rw [this.1]
        try dsimp only
        split at h
        · rename_i q
          try rw [if_pos q]
          cases h
          exact ⟨rfl, this.2⟩
        · cases h
      · cases h
    · split at h
      · rename_i e
        try rw [e]
        try dsimp only
        split at h
        · rename_i q
          try rw [if_pos q]
          cases h
          exact ⟨rfl, hI⟩
        · cases h
      · cases h
    · split at h
      · rename_i q
        try rw [if_pos q]
        split at h
        · rename_i M' args rest e
          rw [pcl_fr hI e]
          dsimp only
          cases hr : c1 M' args v with
          | none => rw [hr] at h; cases h
          | some r =>
            obtain ⟨h2, h3⟩ := hc M' args v r hI hr
            rw [hr] at h
            rw [h2]
            obtain ⟨o, v2⟩ := r
            cases o with
            | inl x =>
              cases h
              exact ⟨rfl, h3⟩
            | inr E =>
              unfold pac at h ⊢
              dsimp only at h ⊢
              split at h
              · rename_i e3
                try rw [e3]
                try dsimp only
                split at h
                · rename_i q3
                  try rw [if_pos q3]
                  cases h
                  exact ⟨rfl, h3⟩
                · cases h
              · rename_i e3
                try rw [e3]
                cases h
                exact ⟨rfl, h3⟩
        · split at h
          · rename_i e
            have := pna_fr (G := G) (d := d) hI e
            rw [pna_no e]
            dsimp only
            rw [this.1]
            cases h
            exact ⟨rfl, this.2⟩
          · cases h
      · cases h
    · split at h
      · rename_i q
        try rw [if_pos q]
        split at h
        · rename_i e
          have := psw_fr (G := G) (d := d) hI e
          rw [this.1]
          try dsimp only
          split at h
          · rename_i q2
            try rw [if_pos q2]
            cases h
            exact ⟨rfl, this.2⟩
          · cases h
        · rename_i e
          split at h
          · rename_i e2
            have h0 : psw M i S (TW P G d v) = none := by
              unfold pth at e2
              split at e2
              · unfold psw at e ⊢
                dsimp only at e ⊢
                split
                · rename_i ci e3
                  rw [e3] at e
                  dsimp only at e
                  by_cases q9 : v.1 < pNA
                  · rw [if_pos q9] at e
                    cases e
                  · rw [if_neg (show ¬ (TW P G d v).1 < pNA from q9)]
                · rfl
              · cases e2
            rw [h0]
            dsimp only
            rw [pth_fr, e2]
            cases h
            exact ⟨rfl, hI⟩
          · cases h
      · cases h
theorem pex_fr {c1 c2 : Nat → List Value → PW → Option PR} (hc : ∀ M' av v r, IW P v → c1 M' av v = some r → c2 M' av (TW P G d v) = some (r.1, TW P G d r.2) ∧ IW P r.2) {r : PR} : ∀ (n : Nat) (pc : Nat) (L : PL) (S : List Value) (v : PW), IW P v → pex c1 n M (pc, L, S, v) = some r → pex c2 n M (pc, L, S, TW P G d v) = some (r.1, TW P G d r.2) ∧ IW P r.2 := by
  intro n
  induction n with
  | zero => intro pc L S v hI h; cases h
  | succ n ih =>
    intro pc L S v hI h
    unfold pex at h ⊢
    cases hx : px c1 M (pc, L, S, v) with
    | none => rw [hx] at h; cases h
    | some z =>
      obtain ⟨h1, h2⟩ := px_fr hc hI hx
      rw [hx] at h
      rw [h1]
      cases z with
      | inl c' => exact ih c'.1 c'.2.1 c'.2.2.1 c'.2.2.2 h2 h
      | inr r2 =>
        cases h
        exact ⟨rfl, h2⟩
theorem prun_fr : ∀ (n M : Nat) (av : List Value) (v : PW) (r : PR), IW P v → prun n M av v = some r → prun n M av (TW P G d v) = some (r.1, TW P G d r.2) ∧ IW P r.2 := by
  intro n
  induction n with
  | zero => intro M av v r hI h; cases h
  | succ n ih =>
    intro M av v r hI h
    unfold prun at h ⊢
    split at h
    · rename_i q
      try rw [if_pos q]
      exact pex_fr ih (n + 1) 0 _ [] v hI h
    · cases h
end FRM
