/-! LAYOUTS, by themselves: what is laid is clean, and is found again -/
theorem nearI_sym (S a b g : Int) : nearI S a b g = nearI S b a g := by
  unfold nearI
  refine decide_eq_decide.mpr ⟨fun h => ?_, fun h => ?_⟩
  · rcases h with ⟨h1, h2⟩ | ⟨h1, h2⟩
    · exact Or.inl ⟨h1.symm, h2⟩
    · exact Or.inr ⟨fun z => h1 z.symm, h2.symm⟩
  · rcases h with ⟨h1, h2⟩ | ⟨h1, h2⟩
    · exact Or.inl ⟨h1.symm, h2⟩
    · exact Or.inr ⟨fun z => h1 z.symm, h2.symm⟩
section LYN
variable {m : Row} {u : Nat} {ch : Nat → Int}
theorem ly_need {t : Nat} (ht : t < 12) : sNeed (rLay m u ch) t = sNeed m t := by
  unfold sNeed
  rw [ly_rT ht (by decide), ly_lo (j := 3) (by decide)]
theorem ly_notes (hR : RowOK m) (x : Int) : sNotes (rLay m u ch) x = sNotes m x := by
  have h5 := hR.n
  unfold sNotes
  rw [ly_lo (j := 5) (by decide)]
  exact cnt_congr (fun i hi => by rw [ly_rN (by omega) (by decide)])
theorem ly_played (hR : RowOK m) (hu : (u : Int) < m 1) (hA : allLaid m u ch) : sPlayed (rLay m u ch) (u : Nat) = ordR m u := by
  have h5 := hR.n
  rw [ordR_notes]
  unfold sPlayed sNotes
  rw [ly_lo (j := 5) (by decide)]
  refine cnt_congr (fun i hi => ?_)
  rw [ly_rN (by omega) (by decide)]
  by_cases q : rN m i 0 = (u : Int)
  · rw [decide_eq_true q, decide_eq_true (ly_plays hR hu hA (by omega) q)]
    rfl
  · rw [decide_eq_false q]
    rfl
/-- a layout's pins are far enough from pin to pin -/
theorem ly_way (hR : RowOK m) (hA : allLaid m u ch) {t a : Nat} (ht : t < (m 4).toNat) (ha : a < (m 0).toNat) (hp : rPin (rLay m u ch) u a t = true) : sNeed m t ≤ (sWay (rLay m u ch) u t a : Nat) := by
  have h0 := hR.s
  have h4 := hR.t
  obtain ⟨k1, a1, a2, a3⟩ := (ly_pin_iff hR (by omega) (by omega)).mp hp
  obtain ⟨t', b1, b2, -, -, b5⟩ := hA k1 a1
  have et : t' = t := by omega
  subst et
  have hf1 := (sFit_iff hR).mp b5
  have hf := fnd_spec (fun i => rPin (rLay m u ch) u (wN (rLay m u ch 0).toNat a (i + 1)) t') ((rLay m u ch 0).toNat - 1)
  have e0 : rLay m u ch 0 = m 0 := ly_lo (by decide)
  unfold sWay
  rw [e0] at hf ⊢
  generalize fnd (fun i => rPin (rLay m u ch) u (wN (m 0).toNat a (i + 1)) t') ((m 0).toNat - 1) = f at hf ⊢
  by_cases q : f < (m 0).toNat - 1
  · have hb := wN_lt (S := (m 0).toNat) (s := a) (i := f + 1) ha (by omega)
    obtain ⟨k2, c1, c2, c3⟩ := (ly_pin_iff hR (by omega) (by omega)).mp (hf.2.2 q)
    have hw := wayI_wN ha (w := f + 1) ⟨by omega, by omega⟩
    rw [show (((m 0).toNat : Nat) : Int) = m 0 from by omega] at hw
    have hab : a ≠ wN (m 0).toNat a (f + 1) := by
      unfold wN
      split <;> omega
    have hnear : nearI (m 0) (a : Nat) (wN (m 0).toNat a (f + 1) : Nat) (sNeed m t') = false := by
      rcases Nat.lt_trichotomy k1 k2 with z | z | z
      · obtain ⟨t2, d1, -, -, -, d5⟩ := hA k2 c1
        have et : t2 = t' := by omega
        subst et
        have := ((sFit_iff hR).mp d5).2.1 k1 z a2
        rw [nearI_sym, a3, c3] at this
        exact this
      · subst z
        omega
      · have := hf1.2.1 k2 z c2
        rw [a3, c3] at this
        exact this
    unfold nearI at hnear
    rw [decide_eq_false_iff_not] at hnear
    refine Int.not_lt.mp (fun z => hnear (Or.inr ⟨by omega, Or.inl ?_⟩))
    rw [hw]
    omega
  · have : f + 1 = (m 0).toNat := by omega
    rw [this]
    have := hf1.1
    omega
theorem ly_conf (hR : RowOK m) (hA : allLaid m u ch) : sCf (rLay m u ch) u = 0 := by
  have h0 := hR.s
  have h4 := hR.t
  unfold sCf
  rw [ly_lo (j := 4) (by decide)]
  refine cnt_zero (fun j hj => ?_)
  unfold sCfP
  rw [ly_lo (j := 0) (by decide)]
  refine Bool.eq_false_iff.mpr (fun z => ?_)
  rw [Bool.and_eq_true, decide_eq_true_eq, decide_eq_true_eq] at z
  obtain ⟨z1, z2⟩ := z
  unfold sShort at z2
  by_cases q : rPin (rLay m u ch) u (j % 64) (j / 64) = true
  · rw [if_pos q, ly_need (by omega)] at z2
    have := ly_way hR hA (t := j / 64) (a := j % 64) (by omega) (by omega) q
    omega
  · rw [if_neg q] at z2
    omega
theorem ly_tr (hR : RowOK m) {j s : Nat} (hs : s < 64) (hj : j % (m 1).toNat ≠ u) : rTr (rLay m u ch) j s = rTr m j s := by
  unfold rTr
  rw [ly_lo (j := 0) (by decide), ly_lo (j := 1) (by decide), ly_lo (j := 4) (by decide), ly_oth hR hj hs]
/-- nothing stands in the way of a layout -/
theorem ly_far (hR : RowOK m) (hu : (u : Int) < m 1) (hA : allLaid m u ch) {t a b J : Nat} (hp : rTr (rLay m u ch) ((m 1).toNat * t + u) a = true) (hq : rTr (rLay m u ch) J b = true) (hJ : J = (m 1).toNat * t + u + 1 ∨ J + 1 = (m 1).toNat * t + u) : nearI (m 0) (a : Nat) (b : Nat) (m 2) = false := by
  have h0 := hR.s
  have h1 := hR.u
  have h4 := hR.t
  have hok : RowOK (rLay m u ch) := ly_ok hR
  have e0 : rLay m u ch 0 = m 0 := ly_lo (by decide)
  have e1 : rLay m u ch 1 = m 1 := ly_lo (by decide)
  have e4 : rLay m u ch 4 = m 4 := ly_lo (by decide)
  have own : ∀ t s : Nat, rTr (rLay m u ch) ((m 1).toNat * t + u) s = true → (t : Int) < m 4 ∧ (s : Int) < m 0 ∧ ∃ k, k < ordR m u ∧ ch k = (t : Int) ∧ sStp m u k = (s : Int) := by
    intro t s h
    have hr := rTr_ut hok (u := u) (t := t) (s := s) (by rw [e1]; exact hu)
    rw [e0, e1, e4] at hr
    rw [hr, Bool.and_eq_true, Bool.and_eq_true, decide_eq_true_eq, decide_eq_true_eq] at h
    exact ⟨h.1, h.2.1, (ly_pin_iff hR h.2.1 h.1).mp h.2.2⟩
  obtain ⟨ht, ha, k1, a1, a2, a3⟩ := own t a hp
  obtain ⟨t', b1, b2, -, -, b5⟩ := hA k1 a1
  have et : t' = t := by omega
  subst et
  obtain ⟨-, -, ⟨f1, f2⟩, f3, f4⟩ := (sFit_iff hR).mp b5
  by_cases q : J % (m 1).toNat = u
  · have hd := Nat.div_add_mod J (m 1).toNat
    rw [q] at hd
    have hU : (m 1).toNat = 1 := by
      have h123 : (m 1).toNat = 1 ∨ (m 1).toNat = 2 ∨ (m 1).toNat = 3 := by omega
      rcases h123 with z | z | z
      · exact z
      · rw [z] at hd hJ; omega
      · rw [z] at hd hJ; omega
    rw [← hd] at hq
    obtain ⟨hT2, hb, k2, c1, c2, c3⟩ := own _ b hq
    have hm1 : m 1 = 1 := by omega
    rw [hU] at hJ hd c2 hT2
    obtain ⟨t2, d1, d2, -, -, d5⟩ := hA k2 c1
    obtain ⟨-, -, ⟨g1, -⟩, g3, -⟩ := (sFit_iff hR).mp d5
    rcases Nat.lt_trichotomy k1 k2 with z | z | z
    · rw [nearI_sym]
      rcases hJ with hJ | hJ
      · have := g1 k1 z (by rw [hm1]; omega)
        rw [a3, c3] at this
        exact this
      · have := g3 k1 z (by rw [hm1]; omega)
        rw [a3, c3] at this
        exact this
    · subst z
      omega
    · rcases hJ with hJ | hJ
      · have := f3 k2 z (by rw [hm1]; omega)
        rw [a3, c3] at this
        exact this
      · have := f1 k2 z (by rw [hm1]; omega)
        rw [a3, c3] at this
        exact this
  · have hb : b < (m 0).toNat := by
      unfold rTr at hq
      rw [e0, Bool.and_eq_true, Bool.and_eq_true, decide_eq_true_eq, decide_eq_true_eq] at hq
      exact hq.2.1
    rw [ly_tr hR (by omega) q] at hq
    refine Bool.eq_false_iff.mpr (fun z => ?_)
    have hmod : ((J : Nat) : Int) % m 1 ≠ (u : Int) := by
      obtain ⟨U, hU⟩ := nat_of (show 0 ≤ m 1 by omega)
      rw [hU, Int.toNat_natCast] at q
      rw [hU, ← Int.natCast_emod]
      omega
    have hstr : sStr m u ((J : Nat) : Int) (sStp m u k1) = true := by
      unfold sStr
      rw [decide_eq_true (Int.natCast_nonneg J), decide_eq_true hmod, Int.toNat_natCast, decide_eq_true (cnt_pos (i := b) hb (by rw [hq, a3, z]; rfl))]
      rfl
    have eJ : m 1 * (t' : Int) + (u : Int) = (((m 1).toNat * t' + u : Nat) : Int) := trk_i hR
    rcases hJ with hJ | hJ
    · rw [show m 1 * (t' : Int) + (u : Int) + 1 = ((J : Nat) : Int) by rw [eJ]; omega, hstr] at f4
      exact Bool.noConfusion f4
    · rw [show m 1 * (t' : Int) + (u : Int) - 1 = ((J : Nat) : Int) by rw [eJ]; omega, hstr] at f2
      exact Bool.noConfusion f2
theorem ly_has (hR : RowOK m) (hu : (u : Int) < m 1) (hA : allLaid m u ch) : ¬ (0 < cnt (sHasT (rLay m u ch) u) (rLay m u ch 4).toNat) := by
  intro h
  obtain ⟨t, -, h⟩ := cnt_ex.mp h
  have e0 : rLay m u ch 0 = m 0 := ly_lo (by decide)
  have e1 : rLay m u ch 1 = m 1 := ly_lo (by decide)
  have e2 : rLay m u ch 2 = m 2 := ly_lo (by decide)
  unfold sHasT at h
  rw [e1, Bool.or_eq_true, Bool.and_eq_true, decide_eq_true_eq, decide_eq_true_eq, decide_eq_true_eq] at h
  rcases h with h | ⟨h2, h⟩
  · obtain ⟨c, -, hT⟩ := cnt_ex.mp h
    unfold sCo1 prP at hT
    rw [Bool.and_eq_true, Bool.and_eq_true, e0, e2] at hT
    have := ly_far hR hu hA hT.1 hT.2.1 (Or.inl rfl)
    rw [hT.2.2] at this
    exact Bool.noConfusion this
  · obtain ⟨c, -, hT⟩ := cnt_ex.mp h
    unfold sCo1 prP at hT
    rw [Bool.and_eq_true, Bool.and_eq_true, e0, e2, show (m 1).toNat * t + u - 1 + 1 = (m 1).toNat * t + u by omega] at hT
    have := ly_far hR hu hA hT.2.1 hT.1 (Or.inr (by omega))
    rw [nearI_sym, hT.2.2] at this
    exact Bool.noConfusion this
/-! the same search -/
theorem ly_insP (hR : RowOK m) {ord : Nat → Nat} {k : Nat} (hk : k < 60) : ∀ c, (∀ p, p < c → ord p < 60) → insP (rLay m u ch) ord k c = insP m ord k c := by
  intro c
  induction c with
  | zero => intro _; rfl
  | succ c ih =>
    intro h
    have hc := h c (Nat.lt_succ_self c)
    unfold insP rRank
    rw [ly_rN hk (by decide), ly_rN hk (by decide), ly_rN hc (by decide), ly_rN hc (by decide), ih (fun p hp => h p (by omega))]
theorem ly_ord (hR : RowOK m) (x : Int) : ∀ n, n ≤ 60 → sOrd (rLay m u ch) x n = sOrd m x n := by
  intro n
  induction n with
  | zero => intro _; rfl
  | succ n ih =>
    intro hn
    have hok := sOrd_ok m x n
    unfold sOrd
    rw [ih (by omega), ly_rN (by omega) (by decide)]
    by_cases q : rN m n 0 = x
    · rw [if_pos q, if_pos q]
      have : insO (rLay m u ch) (sOrd m x n).1 (sOrd m x n).2 n = insO m (sOrd m x n).1 (sOrd m x n).2 n := by
        funext i
        unfold insO
        rw [ly_insP hR (by omega) _ (fun p hp => by have := (hok.2 p hp).1; omega)]
      rw [this]
    · rw [if_neg q, if_neg q]
theorem ly_ordR (hR : RowOK m) (x : Int) : ordR (rLay m u ch) x = ordR m x := by
  have h5 := hR.n
  unfold ordR
  rw [ly_lo (j := 5) (by decide), ly_ord hR x _ (by omega)]
theorem ly_ordN (hR : RowOK m) (x : Int) : ordN (rLay m u ch) x = ordN m x := by
  have h5 := hR.n
  funext i
  unfold ordN
  rw [ly_lo (j := 5) (by decide), ly_ord hR x _ (by omega)]
theorem ly_stp (hR : RowOK m) {x : Int} {k : Nat} (hk : k < ordR m x) : sStp (rLay m u ch) x k = sStp m x k := by
  have h5 := hR.n
  have := (ordN_ok hR hk).1
  unfold sStp
  rw [ly_ordN hR, ly_rN (by omega) (by decide)]
theorem ly_str (hR : RowOK m) (x s : Int) : sStr (rLay m u ch) u x s = sStr m u x s := by
  have h0 := hR.s
  have h1 := hR.u
  unfold sStr
  rw [ly_lo (j := 0) (by decide), ly_lo (j := 1) (by decide), ly_lo (j := 2) (by decide)]
  by_cases q0 : 0 ≤ x
  · by_cases q1 : x % m 1 ≠ (u : Int)
    · have hmod : x.toNat % (m 1).toNat ≠ u := by
        obtain ⟨X, rfl⟩ := nat_of q0
        obtain ⟨U, hU⟩ := nat_of (show 0 ≤ m 1 by omega)
        rw [hU, ← Int.natCast_emod] at q1
        rw [hU, Int.toNat_natCast, Int.toNat_natCast]
        omega
      rw [cnt_congr (fun r hr => by rw [ly_tr hR (by omega) hmod])]
    · rw [decide_eq_false q1, Bool.false_and, Bool.and_false, Bool.false_and, Bool.and_false]
  · rw [decide_eq_false q0, Bool.false_and, Bool.false_and]
theorem ly_fit (hR : RowOK m) {c2 : Nat → Int} {d t : Nat} (hd : d < ordR m u) (ht : t < 12) : sFit (rLay m u ch) u c2 d t = sFit m u c2 d t := by
  unfold sFit
  rw [ly_need ht, ly_lo (j := 0) (by decide), ly_lo (j := 1) (by decide), ly_str hR, ly_str hR, ly_stp hR hd, cnt_congr (fun k hk => ?_)]
  unfold sBad
  rw [ly_need ht, ly_lo (j := 0) (by decide), ly_lo (j := 1) (by decide), ly_lo (j := 2) (by decide), ly_stp hR hd, ly_stp hR (by omega)]
theorem ly_try (hR : RowOK m) {but : Int} {σ : SS} (hd : σ.1 < ordR m u) : sTry (rLay m u ch) u but σ = sTry m u but σ := by
  have h4 := hR.t
  have h5 := hR.n
  have := (ordN_ok hR hd).1
  unfold sTry
  rw [ly_lo (j := 4) (by decide), ly_ordN hR, ly_rN (by omega) (by decide)]
  refine fnd_congr (fun t ht => ?_)
  unfold sNext
  rw [ly_rT (by omega) (by decide)]
theorem ly_run (hR : RowOK m) (but : Int) : ∀ (n : Nat) (σ : SS), sRun (rLay m u ch) u but n σ = sRun m u but n σ := by
  have h4 := hR.t
  intro n
  induction n with
  | zero => intro σ; rfl
  | succ n ih =>
    intro σ
    unfold sRun
    rw [ly_ordR hR, ly_lo (j := 4) (by decide)]
    by_cases q : ordR m u ≤ σ.1
    · rw [if_pos q, if_pos q]
    · rw [if_neg q, if_neg q, ly_try hR (by omega)]
      by_cases qt : sTry m u but σ < (m 4).toNat
      · rw [if_pos qt, if_pos qt, ly_fit hR (by omega) (by omega)]
        by_cases q4 : 4000 ≤ σ.2.1
        · rw [if_pos q4, if_pos q4]
        · rw [if_neg q4, if_neg q4]
          by_cases qf : sFit m u σ.2.2 σ.1 (sTry m u but σ) = true
          · rw [if_pos qf, if_pos qf]; exact ih _
          · rw [if_neg qf, if_neg qf]; exact ih _
      · rw [if_neg qt, if_neg qt]
        by_cases q0 : σ.1 = 0
        · rw [if_pos q0, if_pos q0]
        · rw [if_neg q0, if_neg q0]; exact ih _
theorem ly_seek (hR : RowOK m) (but : Int) : sSeek (rLay m u ch) u but = sSeek m u but := ly_run hR but 12000 _
end LYN
/-- the greatest speed is no less than one with which there is a layout -/
theorem fast_ge {m : Row} (hR : RowOK m) {u : Int} (h : (sSeek m u (-1)).1 = 1) : m 3 ≤ sFast m u 4 := by
  have h3 := hR.v
  have e : mset m 3 (m 3) = m := by
    funext j
    unfold mset
    split
    · rename_i q; rw [q]
    · rfl
  have key : ∀ v : Nat, m 3 ≤ v → m 3 ≤ sFast m u v := by
    intro v
    induction v with
    | zero => intro z; omega
    | succ v ih =>
      intro z
      unfold sFast
      by_cases q : (sSeek (mset m 3 ((v + 1 : Nat) : Int)) u (-1)).1 = 1
      · rw [if_pos q]; exact z
      · rw [if_neg q]
        refine ih ?_
        by_cases q2 : m 3 = ((v + 1 : Nat) : Int)
        · rw [← q2, e] at q
          exact absurd h q
        · omega
  exact key 4 (by omega)
/-- the teeth for the notes ahead, as a set -/
def usedL (m : Row) (u : Nat) : Nat → Int
  | 0 => 0
  | k + 1 => if rN m k 0 = (u : Int) then (if 0 ≤ sLdOn m k then iOr (usedL m u k) (iShl 1 (sLdOn m k)) else iOr (usedL m u k) 0) else usedL m u k
theorem usedL_bd (m : Row) (u : Nat) : ∀ k, bd (usedL m u k) := by
  intro k
  induction k with
  | zero => exact ⟨show (-2147483648 : Int) ≤ 0 by decide, show (0 : Int) < 2147483648 by decide⟩
  | succ k ih =>
    unfold usedL
    split
    · split
      · exact bd_toInt _
      · exact bd_toInt _
    · exact ih
theorem usedL_bits {m : Row} (hR : RowOK m) (u : Nat) : ∀ k : Nat, (k : Int) ≤ m 5 → ∀ t, t < 32 → (tI (usedL m u k) t = true ↔ ∃ j, j < k ∧ rN m j 0 = (u : Int) ∧ sLdOn m j = (t : Int)) := by
  intro k
  induction k with
  | zero =>
    intro _ t _
    rw [show usedL m u 0 = 0 from rfl, tI_0]
    exact ⟨fun z => Bool.noConfusion z, fun ⟨j, hj, _⟩ => absurd hj (Nat.not_lt_zero j)⟩
  | succ k ih =>
    intro hk t ht
    have hi := ih (by omega) t ht
    have hb := sLdOn_bd hR (k := k) (by omega)
    have more : (∃ j, j < k + 1 ∧ rN m j 0 = (u : Int) ∧ sLdOn m j = (t : Int)) ↔ (∃ j, j < k ∧ rN m j 0 = (u : Int) ∧ sLdOn m j = (t : Int)) ∨ (rN m k 0 = (u : Int) ∧ sLdOn m k = (t : Int)) := by
      constructor
      · rintro ⟨j, j1, j2⟩
        by_cases q : j = k
        · subst q; exact Or.inr j2
        · exact Or.inl ⟨j, by omega, j2⟩
      · rintro (⟨j, j1, j2⟩ | z)
        · exact ⟨j, by omega, j2⟩
        · exact ⟨k, Nat.lt_succ_self k, z⟩
    rw [more, ← hi, show usedL m u (k + 1) = (if rN m k 0 = (u : Int) then (if 0 ≤ sLdOn m k then iOr (usedL m u k) (iShl 1 (sLdOn m k)) else iOr (usedL m u k) 0) else usedL m u k) from rfl]
    by_cases q : rN m k 0 = (u : Int)
    · rw [if_pos q]
      by_cases q2 : 0 ≤ sLdOn m k
      · rw [if_pos q2, tI_or, Bool.or_eq_true, tI_bit ⟨q2, by omega⟩ ht, decide_eq_true_eq]
        exact ⟨fun z => z.elim Or.inl (fun z => Or.inr ⟨q, by omega⟩), fun z => z.elim Or.inl (fun z => Or.inr (by omega))⟩
      · rw [if_neg q2, tI_or, Bool.or_eq_true, tI_0]
        exact ⟨fun z => z.elim Or.inl (fun z => Bool.noConfusion z), fun z => z.elim Or.inl (fun z => absurd z.2 (by omega))⟩
    · rw [if_neg q]
      exact ⟨Or.inl, fun z => z.elim id (fun z => absurd z.1 q)⟩
/-- the teeth of the layout, from both sides -/
theorem used_eq {m : Row} (hR : RowOK m) {u : Nat} (hu : (u : Int) < m 1) (h : (sSeek m u (-1)).1 = 1) : usedN (sSeek m u (-1)).2.2.2 (ordR m u) = usedL m u (m 5).toNat := by
  have h4 := hR.t
  have h5 := hR.n
  have hl := (sSeek_lay h).1
  have hb := usedN_bits (ch := (sSeek m u (-1)).2.2.2) (n := ordR m u) (fun k hk => by
    obtain ⟨t, t1, t2, -⟩ := hl k hk
    rw [t1]
    omega)
  refine tI_ext hb.1 (usedL_bd m u _) (fun t ht => ?_)
  refine Bool.eq_iff_iff.mpr ?_
  rw [hb.2 t ht, decide_eq_true_eq, cnt_ex, usedL_bits hR u _ (by omega) t ht]
  constructor
  · rintro ⟨d, d1, d2⟩
    rw [decide_eq_true_eq] at d2
    have hd := ordN_ok hR d1
    obtain ⟨f1, f2⟩ := ord_at hR hd.1 hd.2
    refine ⟨ordN m u d, by omega, hd.2, ?_⟩
    unfold sLdOn
    rw [hd.2, if_pos h, ord_inj f1 d1 f2]
    exact d2
  · rintro ⟨j, j1, j2, j3⟩
    obtain ⟨f1, f2⟩ := ord_at hR (show ((j : Nat) : Int) < m 5 by omega) j2
    refine ⟨_, f1, ?_⟩
    rw [decide_eq_true_eq]
    unfold sLdOn at j3
    rw [j2, if_pos h] at j3
    exact j3
