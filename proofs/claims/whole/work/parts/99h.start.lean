/-! THE LAW: its beginning -/
theorem d355_0 : decode cL_law 0 = .ok (.new 8, 3) := by decide +kernel
theorem d355_3 : decode cL_law 3 = .ok (.dup, 1) := by decide +kernel
theorem d355_4 : decode cL_law 4 = .ok (.invokespecial 164, 3) := by decide +kernel
theorem d355_7 : decode cL_law 7 = .ok (.astore_n 1, 1) := by decide +kernel
theorem d355_8 : decode cL_law 8 = .ok (.new 165, 3) := by decide +kernel
theorem d355_11 : decode cL_law 11 = .ok (.dup, 1) := by decide +kernel
theorem d355_12 : decode cL_law 12 = .ok (.invokespecial 167, 3) := by decide +kernel
theorem d355_15 : decode cL_law 15 = .ok (.astore_n 2, 1) := by decide +kernel
theorem d355_16 : decode cL_law 16 = .ok (.iconst 1, 1) := by decide +kernel
theorem d355_17 : decode cL_law 17 = .ok (.newarray .long, 2) := by decide +kernel
theorem d355_19 : decode cL_law 19 = .ok (.astore_n 3, 1) := by decide +kernel
theorem d355_20 : decode cL_law 20 = .ok (.iconst 1, 1) := by decide +kernel
theorem d355_21 : decode cL_law 21 = .ok (.newarray .double, 2) := by decide +kernel
theorem d355_23 : decode cL_law 23 = .ok (.astore 4, 2) := by decide +kernel
theorem d355_25 : decode cL_law 25 = .ok (.iconst 0, 1) := by decide +kernel
theorem d355_26 : decode cL_law 26 = .ok (.istore 5, 2) := by decide +kernel
/-- nothing but the script -/
def G1 (n : Nat) (f : Nat → Int32) : Nat → va_E := fun c => if c = pSC then .inl (7, n, .inl f) else cDF
def W00 (n : Nat) (f : Nat → Int32) : PW := (0, 0, G1 n f)
def P1 : Nat → Bool := fun c => decide (182 ≤ c)
def P2 : Nat → Bool := fun c => decide (c < 169 ∨ 182 ≤ c)
theorem shp_i {e : va_E} {t n : Nat} (h : shp e = (1, t, [some n])) : ∃ f, e = .inl (t, n, .inl f) := by
  unfold shp at h
  split at h <;> simp only [Prod.mk.injEq] at h
  · exact absurd h.1 (by decide)
  · rename_i t9 n9 f
    obtain ⟨-, rfl, h3⟩ := h
    simp only [List.cons.injEq, Option.some.injEq, and_true] at h3
    subst h3
    exact ⟨f, rfl⟩
  all_goals exact absurd h.1 (by decide)
theorem iw0 : IW P1 z0 := fun c hc => by
  have h : 182 ≤ c := of_decide_eq_true hc
  refine ⟨?_, Or.inr h⟩
  show (if c < 182 then cDF else .inr (12345, [])) = _
  rw [if_neg (by omega)]
theorem tw0 {n : Nat} {f : Nat → Int32} : TW P1 (G1 n f) 0 z0 = W00 n f := by
  have e : (fun c => if P1 c = true then G1 n f c else z0.2.2 c) = G1 n f := by
    funext c
    by_cases q : P1 c = true
    · rw [if_pos q]
    · rw [if_neg q]
      have h : ¬ 182 ≤ c := fun z => q (decide_eq_true z)
      show (if c < 182 then cDF else .inr (12345, [])) = (if c = pSC then _ else cDF)
      rw [if_pos (by omega), if_neg (by have e : pSC = 2000000 := rfl; omega)]
  show (0, 0 + 0, fun c => if P1 c = true then G1 n f c else z0.2.2 c) = _
  rw [e]
  rfl
/-- PinBarrel's constructor -/
theorem w8 {n : Nat} {f : Nat → Int32} : ∃ v, P8 v ∧ ∀ U : PW, U = TW P1 (G1 n f) 0 v → ∀ K : PO → PW → Prop, K (.inl none) U → pC 8 [.ref 0] (pnw (W00 n f) 10 (.inr (7, oF 7))) K := by
  obtain ⟨v, h1, h2⟩ := chk8_e k8
  refine ⟨v, h2, fun U e K hK => ?_⟩
  subst e
  have hI : IW P1 z8 := iw_nw iw0 (by decide)
  have e : pnw (W00 n f) 10 (.inr (7, oF 7)) = TW P1 (G1 n f) 0 z8 := by
    rw [← tw0]
    exact tw_nw iw0 (by decide)
  rw [e]
  exact ⟨300, _, (prun_fr (G := G1 n f) (d := 0) 300 8 [.ref 0] z8 _ hI h1).1, hK⟩
theorem iw216 : IW P2 z216 := fun c hc => by
  have h : c < 169 ∨ 182 ≤ c := of_decide_eq_true hc
  refine ⟨?_, ?_⟩
  · show (if c = 169 then _ else if c < 169 ∨ 182 ≤ c then _ else _) = _
    rw [if_neg (by omega), if_pos h]
  · show c < 170 ∨ 182 ≤ c
    omega
/-- the model's constructor -/
theorem w216 {U : PW} (h1 : U.1 = 169) (hD : ∀ a, a < 13 → U.2.2 (169 + a) = cDF) : ∃ v, P216 v ∧ ∀ K : PO → PW → Prop, (∀ w2 : PW, w2.1 = 180 → w2.2.1 = v.2.1 + (U.2.1 + 31) → (∀ c, c < 169 ∨ 182 ≤ c → w2.2.2 c = U.2.2 c) → (∀ c, 169 ≤ c → c < 182 → c ≠ 170 → w2.2.2 c = v.2.2 c) → (∃ g, w2.2.2 170 = .inl (0, 843, .inl g) ∧ ∀ k, k < 843 → (g k).toInt = rBegin 8 1 0 k) → K (.inl none) w2) → pC 216 [.ref 169] (pnw U 31 (.inr (8, oF 8))) K := by
  obtain ⟨v, e1, h2⟩ := chk216_e k216
  refine ⟨v, h2, fun K hK => ?_⟩
  obtain ⟨⟨g1, g2⟩, g3, g4, g5, g6, g7, g8, g9⟩ := h2
  have e : pnw U 31 (.inr (8, oF 8)) = TW P2 U.2.2 (U.2.1 + 31) z216 := by
    have e2 : va_up U.2.2 U.1 (.inr (8, oF 8)) = fun c => if P2 c = true then U.2.2 c else z216.2.2 c := by
      funext c
      show (if c = U.1 then _ else U.2.2 c) = _
      rw [h1]
      by_cases q : P2 c = true
      · have h : c < 169 ∨ 182 ≤ c := of_decide_eq_true q
        rw [if_pos q, if_neg (by omega)]
      · have h : ¬ (c < 169 ∨ 182 ≤ c) := fun z => q (decide_eq_true z)
        rw [if_neg q]
        show _ = (if c = 169 then _ else if c < 169 ∨ 182 ≤ c then _ else cDF)
        by_cases q2 : c = 169
        · rw [if_pos q2, if_pos q2]
        · rw [if_neg q2, if_neg q2, if_neg h]
          have := hD (c - 169) (by omega)
          rwa [show 169 + (c - 169) = c from by omega] at this
    show (U.1 + 1, U.2.1 + 31, va_up U.2.2 U.1 (.inr (8, oF 8))) = (170, 0 + (U.2.1 + 31), fun c => if P2 c = true then U.2.2 c else z216.2.2 c)
    rw [e2, h1, Nat.zero_add]
  rw [e]
  obtain ⟨e3, -⟩ := stn_fr (G := U.2.2) (d := U.2.1 + 31) 49 0 [some (.ref 169)] [] z216 iw216 e1
  refine (pC_in (Nat.le_of_ble_eq_true rfl) rfl K).mpr (stn_X 49 0 [some (.ref 169)] [] _ e3 ?_)
  have p169 : P2 169 = false := by decide
  have p170 : P2 170 = false := by decide
  obtain ⟨f, hf⟩ := shp_i (t := 0) (n := 843) (g3 1 (by decide))
  have hf : v.2.2 170 = .inl (0, 843, .inl f) := hf
  have hz : ∀ k, k < 843 → f k = 0 := fun k hk => by
    have := g7 k hk
    unfold gI at this
    rw [hf] at this
    exact Int32.toInt_inj.mp this
  show pX 216 99 [some (.ref 169)] [iv 0, iv 1, iv 8, .ref 169] (TW P2 U.2.2 (U.2.1 + 31) v) K
  refine w_cc b216 d216_99 rfl (pcl_v (n := 3) rfl rfl rfl (by decide +kernel) ((tw_ob p169).trans g6) rfl rfl) rfl (b215L ((tw_pgf p169).trans g5) ((tw_c p170).trans hf) hz (fun w2 k1 k2 k3 k4 => ?_))
  refine w_rv b216 d216_102 r216 (hK w2 (k1.trans g1) k2 (fun c hc => ?_) (fun c hc1 hc2 hc3 => ?_) ⟨_, k4, fun k hk => ?_⟩)
  · rw [k3 c (by omega)]
    show (if P2 c = true then _ else _) = _
    rw [if_pos (show P2 c = true from decide_eq_true hc)]
  · rw [k3 c hc3]
    exact tw_c (bF (fun z => by have : c < 169 ∨ 182 ≤ c := of_decide_eq_true z; omega))
  · have ez := hz k hk
    unfold rBegin upd
    by_cases q3 : k = 3
    · subst q3; rfl
    by_cases q2 : k = 2
    · subst q2; rfl
    by_cases q1 : k = 1
    · subst q1; rfl
    by_cases q0 : k = 0
    · subst q0; rfl
    rw [if_neg q3, if_neg q2, if_neg q1, if_neg q0, if_neg q0, if_neg q1, if_neg q2, if_neg q3, ez]
    rfl
/-- what is true before the first call -/
theorem iv0 {Z v u : PW} {n : Nat} {f g : Nat → Int32} (h8 : P8 v) (h2 : P216 u) (z1 : Z.1 = 182) (zc : ∀ c, c < 169 → Z.2.2 c = v.2.2 c) (zm : ∀ c, 169 ≤ c → c < 180 → c ≠ 170 → Z.2.2 c = u.2.2 c) (zw : Z.2.2 170 = .inl (0, 843, .inl g)) (hg : ∀ k, k < 843 → (g k).toInt = rBegin 8 1 0 k) (zl : Z.2.2 180 = .inl (1, 1, .inr (.inl (fun _ => 0)))) (zd : Z.2.2 181 = .inl (5, 1, .inr (.inr (.inr (.inl (fun _ => FP.dconst0)))))) (zs : Z.2.2 pSC = .inl (7, n, .inl f)) : IV Z n f := by
  have hok : RowOK (rBegin 8 1 0) := rBegin_ok ⟨by decide, by decide⟩ ⟨by decide, by decide⟩ ⟨by decide, by decide⟩
  obtain ⟨-, -, a3, -, a5, a6, a7, a8, a9, a10, a11, a12⟩ := h8
  obtain ⟨-, b3, -, -, -, -, b8, b9⟩ := h2
  have ci : ∀ c k, c < 169 → gI Z c k = gI v c k := fun c k hc => gI_cell (zc c hc) k
  have cl : ∀ c k, c < 169 → gL Z c k = gL v c k := fun c k hc => gL_cell (zc c hc) k
  have mi : ∀ c k, 169 ≤ c → c < 180 → c ≠ 170 → gI Z c k = gI u c k := fun c k h1 h2 h3 => gI_cell (zm c h1 h2 h3) k
  have hs : Sh Z := by
    refine ⟨z1, fun a ha => ?_⟩
    by_cases q : a < 169
    · rw [zc a q]
      exact a3 a q
    · by_cases q2 : a = 170
      · rw [q2, zw]
        rfl
      · by_cases q3 : a < 180
        · rw [zm a (by omega) q3 q2]
          have := b3 (a - 169) (by omega)
          rwa [show 169 + (a - 169) = a from by omega] at this
        · by_cases q4 : a = 180
          · rw [q4, zl]
            rfl
          · obtain rfl : a = 181 := by omega
            rw [zd]
            rfl
  have m5 : rBegin 8 1 0 5 = 0 := rfl
  have m9 : rBegin 8 1 0 9 = 0 := rfl
  have m4 : rBegin 8 1 0 4 = 0 := rfl
  refine ⟨rBegin 8 1 0, fun _ => rBegin 8 1 0, 0, [], [], fun _ => rBegin 8 1 0, fun _ => 0, 0, -1, hs, zs, ⟨⟨bxc 1 rfl, hok, ?_, ?_, ?_, ?_, ?_, ?_, ?_⟩, ⟨?_, by decide, 0, ?_, by decide, fun j hj => absurd hj (Nat.not_lt_zero j)⟩, ⟨?_, by decide, fun k hk => absurd hk (Nat.not_lt_zero k)⟩, ⟨?_, fun k hk => absurd hk (Nat.not_lt_zero k)⟩, fun x hx => ⟨?_, fun q => absurd rfl q⟩, ?_, ?_⟩, ⟨⟨hok, fun k hk => ?_⟩, ⟨?_, by decide, fun j k hj => absurd hj (Nat.not_lt_zero j)⟩, ⟨?_, by decide, fun k hk => absurd hk (Nat.not_lt_zero k)⟩, ⟨?_, fun k hk => absurd hk (Nat.not_lt_zero k)⟩, fun x hx => ⟨?_, fun q => absurd rfl q⟩, ?_, ?_⟩, ⟨rBegin_f, fun j hj => absurd hj (Nat.not_lt_zero j), by decide, fun x hx q => absurd rfl q⟩⟩
  · rw [ci 1 0 (by decide), ci 1 1 (by decide), ci 1 2 (by decide), ci 1 3 (by decide), ci 1 4 (by decide)]
    exact a5
  · intro t ht
    rw [m4] at ht
    omega
  · rw [ci (1 + 4) 0 (by decide), m5]
    exact a6
  · intro i hi
    rw [m5] at hi
    omega
  · rw [ci (1 + 8) 0 (by decide), ci (1 + 8) 1 (by decide), ci (1 + 8) 2 (by decide), ci (1 + 8) 3 (by decide), ci (1 + 8) 4 (by decide)]
    exact ⟨a7 0 (by decide), a7 1 (by decide), a7 2 (by decide), a7 3 (by decide), a7 4 (by decide)⟩
  · intro k hk h
    rw [m9] at h
    omega
  · intro j s hj hs2
    rw [cl (1 + 3) j (by decide), a8 j hj, tL_0]
    unfold rTr
    rw [show (rBegin 8 1 0 1).toNat * (rBegin 8 1 0 4).toNat = 0 from rfl, decide_eq_false (Nat.not_lt_zero j)]
    rfl
  · rw [ci 27 2 (by decide)]
    exact a9.2
  · rw [ci 27 1 (by decide)]
    exact a9.1
  · rw [ci 135 1 (by decide)]
    exact a10.1
  · rw [ci 137 1 (by decide)]
    exact a10.2
  · rw [ci 134 x (by decide)]
    by_cases q : x = 0
    · rw [q]
      exact a11.1
    · obtain rfl : x = 1 := by omega
      exact a11.2
  · rw [ci 0 8 (by decide)]
    exact a12.1
  · rw [ci 0 9 (by decide)]
    exact a12.2
  · unfold gI
    rw [zw]
    exact hg k hk
  · rw [mi 169 6 (by decide) (by decide) (by decide)]
    exact b8.1
  · rw [mi 169 8 (by decide) (by decide) (by decide)]
    exact b8.2.1
  · rw [mi 169 30 (by decide) (by decide) (by decide)]
    exact b8.2.2.2.2
  · rw [mi 173 x (by decide) (by decide) (by decide)]
    by_cases q : x = 0
    · rw [q]
      exact b9.1
    · obtain rfl : x = 1 := by omega
      exact b9.2
  · rw [mi 169 12 (by decide) (by decide) (by decide)]
    exact b8.2.2.1
  · rw [mi 169 15 (by decide) (by decide) (by decide)]
    exact b8.2.2.2.1
