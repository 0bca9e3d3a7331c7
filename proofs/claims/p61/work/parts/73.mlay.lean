/-! LAYOUTS, by themselves: the order of the notes, how many pins, who plays whom -/
theorem insO_lo {m : Row} {ord : Nat → Nat} {c k i : Nat} (h : i < insP m ord k c) : insO m ord c k i = ord i := if_pos h
theorem insO_eq {m : Row} {ord : Nat → Nat} {c k i : Nat} (h : i = insP m ord k c) : insO m ord c k i = k := by
  unfold insO
  rw [if_neg (by omega), if_pos h]
theorem insO_hi {m : Row} {ord : Nat → Nat} {c k i : Nat} (h : insP m ord k c < i) : insO m ord c k i = ord (i - 1) := by
  unfold insO
  rw [if_neg (by omega), if_neg (by omega)]
theorem ord_inj0 (m : Row) (u : Int) : ∀ n i j, i < (sOrd m u n).2 → j < (sOrd m u n).2 → (sOrd m u n).1 i = (sOrd m u n).1 j → i = j := by
  intro n
  induction n with
  | zero => intro i j hi; exact absurd hi (Nat.not_lt_zero i)
  | succ n ih =>
    intro i j hi hj he
    have hok := (sOrd_ok m u n).2
    unfold sOrd at hi hj he
    by_cases q : rN m n 0 = u
    · rw [if_pos q] at hi hj he
      have hi : i < (sOrd m u n).2 + 1 := hi
      have hj : j < (sOrd m u n).2 + 1 := hj
      have he : insO m (sOrd m u n).1 (sOrd m u n).2 n i = insO m (sOrd m u n).1 (sOrd m u n).2 n j := he
      have hp := insP_le m (sOrd m u n).1 n (sOrd m u n).2
      rcases Nat.lt_trichotomy i (insP m (sOrd m u n).1 n (sOrd m u n).2) with a | a | a <;> rcases Nat.lt_trichotomy j (insP m (sOrd m u n).1 n (sOrd m u n).2) with b | b | b
      · rw [insO_lo a, insO_lo b] at he
        exact ih i j (by omega) (by omega) he
      · rw [insO_lo a, insO_eq b] at he
        have := (hok i (by omega)).1
        omega
      · rw [insO_lo a, insO_hi b] at he
        have := ih i (j - 1) (by omega) (by omega) he
        omega
      · rw [insO_eq a, insO_lo b] at he
        have := (hok j (by omega)).1
        omega
      · omega
      · rw [insO_eq a, insO_hi b] at he
        have := (hok (j - 1) (by omega)).1
        omega
      · rw [insO_hi a, insO_lo b] at he
        have := ih (i - 1) j (by omega) (by omega) he
        omega
      · rw [insO_hi a, insO_eq b] at he
        have := (hok (i - 1) (by omega)).1
        omega
      · rw [insO_hi a, insO_hi b] at he
        have := ih (i - 1) (j - 1) (by omega) (by omega) he
        omega
    · rw [if_neg q] at hi hj he
      exact ih i j hi hj he
theorem ord_inj {m : Row} {u : Int} {i j : Nat} (hi : i < ordR m u) (hj : j < ordR m u) (he : ordN m u i = ordN m u j) : i = j := ord_inj0 m u _ i j hi hj he
theorem cnt_rm {B : Nat → Bool} {T x : Nat} (hx : x < T) (h : B x = true) : cnt B T = cnt (fun t => B t && decide (t ≠ x)) T + 1 := by
  have e1 : cnt B T = cnt (fun t => (B t && decide (t ≠ x)) || (B t && decide (t = x))) T := by
    refine cnt_congr (fun i _ => ?_)
    by_cases q : i = x
    · rw [decide_eq_false (show ¬ i ≠ x from fun z => z q), decide_eq_true q, Bool.and_false, Bool.and_true, Bool.false_or]
    · rw [decide_eq_true (show i ≠ x from q), decide_eq_false q, Bool.and_false, Bool.and_true, Bool.or_false]
  rw [e1, cnt_or (fun i _ q => ?_), cnt_point, if_pos ⟨hx, h⟩]
  rw [Bool.and_eq_true, decide_eq_true_eq] at q
  rw [decide_eq_false q.2, Bool.and_false]
theorem cnt_inj {A : Nat → Bool} {g : Nat → Nat} {T : Nat} : ∀ (n : Nat) (B : Nat → Bool), (∀ j, j < n → A j = true → g j < T ∧ B (g j) = true) → (∀ i j, i < n → j < n → A i = true → A j = true → g i = g j → i = j) → cnt A n ≤ cnt B T := by
  intro n
  induction n with
  | zero => intro B _ _; exact Nat.zero_le _
  | succ n ih =>
    intro B hB hi
    by_cases q : A n = true
    · obtain ⟨g1, g2⟩ := hB n (Nat.lt_succ_self n) q
      rw [cnt_t q, cnt_rm g1 g2]
      refine Nat.succ_le_succ (ih _ (fun j hj hA => ?_) (fun i j h1 h2 => hi i j (by omega) (by omega)))
      obtain ⟨b1, b2⟩ := hB j (by omega) hA
      refine ⟨b1, ?_⟩
      rw [b2, Bool.true_and, decide_eq_true_eq]
      intro e
      have := hi j n (by omega) (Nat.lt_succ_self n) hA q e
      omega
    · rw [cnt_f (Bool.eq_false_iff.mpr q)]
      exact ih B (fun j hj => hB j (by omega)) (fun i j h1 h2 => hi i j (by omega) (by omega))
theorem sm_one {x T : Nat} (hx : x < T) : sm (fun t => if t = x then (1 : Int) else 0) T = 1 := by
  have h := cnt_point (fun _ => true) x T
  rw [if_pos ⟨hx, rfl⟩] at h
  have h2 := cnt_sm (fun z => true && decide (z = x)) T
  rw [h] at h2
  rw [show ((1 : Nat) : Int) = 1 from rfl] at h2
  refine Eq.trans (sm_congr (fun i _ => ?_)) h2.symm
  by_cases q : i = x
  · rw [if_pos q, if_pos (by rw [decide_eq_true q]; rfl)]
  · rw [if_neg q, if_neg (by rw [decide_eq_false q]; decide)]
section LYM
variable {m : Row} {u : Nat} {ch : Nat → Int}
/-- all notes of a tune are laid -/
def allLaid (m : Row) (u : Nat) (ch : Nat → Int) : Prop := ∀ d, d < ordR m u → laidD m u (-1) ch d
theorem stp_in (hR : RowOK m) {d : Nat} (hd : d < ordR m u) : 0 ≤ sStp m u d ∧ sStp m u d < m 0 := by
  have h := ordN_ok hR hd
  exact (hR.N h.1).2.1
theorem laid_ne (hR : RowOK m) (hA : allLaid m u ch) {i j : Nat} (hij : i < j) (hj : j < ordR m u) (he : ch i = ch j) : sStp m u i ≠ sStp m u j := by
  intro e
  obtain ⟨t, t1, t2, -, -, t5⟩ := hA j hj
  have hn := sNeed_bd hR (t := t) (by have := hR.t; omega)
  have h := ((sFit_iff hR).mp t5).2.1 i hij (he.trans t1)
  rw [e, nearI_same (by omega)] at h
  exact Bool.noConfusion h
theorem laid_eq (hR : RowOK m) (hA : allLaid m u ch) {i j : Nat} (hi : i < ordR m u) (hj : j < ordR m u) (he : ch i = ch j) (hs : sStp m u i = sStp m u j) : i = j := by
  rcases Nat.lt_trichotomy i j with q | q | q
  · exact absurd hs (laid_ne hR hA q hj he)
  · exact q
  · exact absurd hs.symm (laid_ne hR hA q hi he.symm)
/-- the pins of the first d notes -/
theorem laid_iff (hR : RowOK m) {d t s : Nat} : sLaid m u ch d ((m 1).toNat * t + u) s = true ↔ ∃ k, k < d ∧ ch k = (t : Int) ∧ sStp m u k = (s : Int) := by
  have h1 := hR.u
  rw [sLaid_iff]
  have e : (((m 1).toNat * t + u : Nat) : Int) = m 1 * (t : Int) + (u : Int) := (trk_i hR).symm
  rw [e]
  constructor
  · rintro ⟨k, k1, k2, k3⟩
    exact ⟨k, k1, mulU hR (by omega), k3⟩
  · rintro ⟨k, k1, k2, k3⟩
    exact ⟨k, k1, by rw [k2], k3⟩
theorem pins_d (hR : RowOK m) (hA : allLaid m u ch) : ∀ d, d ≤ ordR m u → sm (fun t => (cnt (fun s => sLaid m u ch d ((m 1).toNat * t + u) s) (m 0).toNat : Int)) (m 4).toNat = d := by
  intro d
  induction d with
  | zero =>
    intro _
    refine sm_zero (fun t _ => ?_)
    rw [cnt_zero (fun s _ => ?_)]
    · rfl
    · refine Bool.eq_false_iff.mpr (fun z => ?_)
      obtain ⟨k, hk, -⟩ := (laid_iff hR).mp z
      exact Nat.not_lt_zero k hk
  | succ d ih =>
    intro hd
    obtain ⟨t0, t1, t2, -, -, -⟩ := hA d (by omega)
    have hs := stp_in hR (u := u) (d := d) (by omega)
    obtain ⟨s0, e0⟩ := nat_of hs.1
    have step : ∀ t s, sLaid m u ch (d + 1) ((m 1).toNat * t + u) s = (sLaid m u ch d ((m 1).toNat * t + u) s || (decide (t = t0) && decide (s = s0))) := by
      intro t s
      refine Bool.eq_iff_iff.mpr ?_
      rw [Bool.or_eq_true, Bool.and_eq_true, decide_eq_true_eq, decide_eq_true_eq, laid_iff hR, laid_iff hR]
      constructor
      · rintro ⟨k, k1, k2, k3⟩
        by_cases q : k = d
        · subst q
          rw [t1] at k2
          rw [e0] at k3
          exact Or.inr ⟨by omega, by omega⟩
        · exact Or.inl ⟨k, by omega, k2, k3⟩
      · rintro (⟨k, k1, k2, k3⟩ | ⟨rfl, rfl⟩)
        · exact ⟨k, by omega, k2, k3⟩
        · exact ⟨d, Nat.lt_succ_self d, t1, e0⟩
    have free : sLaid m u ch d ((m 1).toNat * t0 + u) s0 = false := by
      refine Bool.eq_false_iff.mpr (fun z => ?_)
      obtain ⟨k, k1, k2, k3⟩ := (laid_iff hR).mp z
      exact laid_ne hR hA k1 (by omega) (k2.trans t1.symm) (k3.trans e0.symm)
    have ec : ∀ t, t < (m 4).toNat → (cnt (fun s => sLaid m u ch (d + 1) ((m 1).toNat * t + u) s) (m 0).toNat : Int) = (cnt (fun s => sLaid m u ch d ((m 1).toNat * t + u) s) (m 0).toNat : Int) + (if t = t0 then 1 else 0) := by
      intro t _
      rw [cnt_congr (fun s _ => step t s)]
      by_cases q : t = t0
      · subst q
        rw [if_pos rfl, cnt_congr (Q := fun s => sLaid m u ch d ((m 1).toNat * t + u) s || (true && decide (s = s0))) (fun s _ => by rw [decide_eq_true (rfl : t = t)]), cnt_or (fun i _ z => ?_), cnt_point (fun _ => true) s0, if_pos ⟨by omega, rfl⟩]
        · rw [Int.natCast_add]; rfl
        · by_cases qi : i = s0
          · rw [qi, free] at z; exact Bool.noConfusion z
          · rw [decide_eq_false qi]; rfl
      · rw [if_neg q, cnt_congr (Q := fun s => sLaid m u ch d ((m 1).toNat * t + u) s) (fun s _ => by rw [decide_eq_false q, Bool.false_and, Bool.or_false])]
        omega
    rw [sm_congr ec, sm_add, ih (by omega), sm_one t2]
    omega
/-- the row in which the layout has been laid -/
theorem ly_lo {j : Nat} (h : j < 251) : rLay m u ch j = m j := rSetP_lo h
theorem ly_rT {t k : Nat} (ht : t < 12) (hk : k < 5) : rT (rLay m u ch) t k = rT m t k := ly_lo (by omega)
theorem ly_rN {i k : Nat} (hi : i < 60) (hk : k < 3) : rN (rLay m u ch) i k = rN m i k := ly_lo (by omega)
theorem ly_pin (hR : RowOK m) {s t : Nat} (hs : (s : Int) < m 0) (ht : t < 32) : rPin (rLay m u ch) u s t = (decide ((t : Int) < m 4) && sLaid m u ch (ordR m u) ((m 1).toNat * t + u) s) := by
  unfold rPin rLay
  rw [rSetP_same hs]
  exact (gLayS_ok hR u ch s hs).2 t ht
theorem ly_oth (hR : RowOK m) {v s t : Nat} (hv : v ≠ u) (hs : s < 64) : rPin (rLay m u ch) v s t = rPin m v s t := by
  unfold rPin rLay
  rw [rSetP_other hR hv hs]
theorem ly_ok (hR : RowOK m) : RowOK (rLay m u ch) := rSetP_ok hR (fun s hs => ⟨(gLayS_ok hR u ch s hs).1, fun t ht q => by
  rw [(gLayS_ok hR u ch s hs).2 t ht, Bool.and_eq_true, decide_eq_true_eq] at q
  exact q.1⟩)
theorem ly_pin_iff (hR : RowOK m) {s t : Nat} (hs : (s : Int) < m 0) (ht : (t : Int) < m 4) : rPin (rLay m u ch) u s t = true ↔ ∃ k, k < ordR m u ∧ ch k = (t : Int) ∧ sStp m u k = (s : Int) := by
  have h4 := hR.t
  rw [ly_pin hR hs (by omega), decide_eq_true ht, Bool.true_and, laid_iff hR]
theorem ly_pins (hR : RowOK m) (hA : allLaid m u ch) : sPins (rLay m u ch) u = ordR m u := by
  have h0 := hR.s
  have h4 := hR.t
  have e := pins_d hR hA (ordR m u) (Nat.le_refl _)
  unfold sPins
  rw [ly_lo (j := 4) (by decide), ← e]
  refine sm_congr (fun t ht => ?_)
  unfold sPinT
  rw [ly_lo (j := 0) (by decide)]
  refine congrArg (fun z : Nat => (z : Int)) (cnt_congr (fun s hs => ?_))
  rw [ly_pin hR (by omega) (by omega), decide_eq_true (show ((t : Nat) : Int) < m 4 by omega), Bool.true_and]
/-- the note's place in the order, and its tooth -/
theorem note_at (hR : RowOK m) {k : Nat} (hk : (k : Int) < m 5) (hku : rN m k 0 = (u : Int)) : ∃ d, d < ordR m u ∧ ordN m u d = k := ⟨_, (ord_at hR hk hku).1, (ord_at hR hk hku).2⟩
theorem ly_note (hR : RowOK m) (k : Nat) (hk : k < 60) : sLike (rLay m u ch) k = sLike m k := by
  unfold sLike
  refine cnt_congr (fun i hi => ?_)
  rw [ly_rN (i := i) (by omega) (by decide), ly_rN (i := i) (by omega) (by decide), ly_rN (i := i) (by omega) (by decide), ly_rN (i := k) hk (by decide), ly_rN (i := k) hk (by decide), ly_rN (i := k) hk (by decide)]
/-- each note of the tune is played -/
theorem ly_plays (hR : RowOK m) (hu : (u : Int) < m 1) (hA : allLaid m u ch) {k : Nat} (hk : (k : Int) < m 5) (hku : rN m k 0 = (u : Int)) : sPlay (rLay m u ch) k ≠ -1 := by
  have h4 := hR.t
  have h5 := hR.n
  have hN := hR.N hk
  -- the places of the notes
  have hg : ∀ j : Nat, ∃ d, (j : Int) < m 5 → rN m j 0 = (u : Int) → d < ordR m u ∧ ordN m u d = j := fun j => by
    by_cases q : (j : Int) < m 5 ∧ rN m j 0 = (u : Int)
    · obtain ⟨d, h⟩ := note_at hR q.1 q.2
      exact ⟨d, fun _ _ => h⟩
    · exact ⟨0, fun z1 z2 => absurd ⟨z1, z2⟩ q⟩
  obtain ⟨pl, hpl⟩ := Classical.axiomOfChoice hg
  have hc := cnt_inj (A := fun i => decide (rN m i 0 = rN m k 0 ∧ rN m i 1 = rN m k 1 ∧ rN m i 2 = rN m k 2)) (g := fun j => (ch (pl j)).toNat) (T := (m 4).toNat) (k + 1) (sPlayP (rLay m u ch) k) (fun j hj hA2 => ?_) (fun i j hi hj hAi hAj he => ?_)
  · rw [cnt_t (decide_eq_true ⟨rfl, rfl, rfl⟩)] at hc
    have hl : cnt (fun i => decide (rN m i 0 = rN m k 0 ∧ rN m i 1 = rN m k 1 ∧ rN m i 2 = rN m k 2)) k = sLike (rLay m u ch) k := (ly_note hR k (by omega)).symm
    rw [hl] at hc
    obtain ⟨i, -, -, -, i4⟩ := sel_ex (P := sPlayP (rLay m u ch) k) (x := (sLike (rLay m u ch) k : Nat)) (n := (m 4).toNat) (by omega) (by omega)
    have e : sPlay (rLay m u ch) k = i := by
      unfold sPlay
      rw [ly_lo (j := 4) (by decide)]
      exact i4
    omega
  · rw [decide_eq_true_eq] at hA2
    obtain ⟨d1, d2⟩ := hpl j (by omega) (hA2.1.trans hku)
    obtain ⟨t, t1, t2, t3, -, -⟩ := hA _ d1
    rw [d2] at t3
    show (ch (pl j)).toNat < (m 4).toNat ∧ sPlayP (rLay m u ch) k (ch (pl j)).toNat = true
    rw [t1, Int.toNat_natCast]
    refine ⟨t2, ?_⟩
    unfold sPlayP
    rw [ly_rT (by omega) (by decide), ly_rN (by omega) (by decide), ly_rN (by omega) (by decide), ly_rN (by omega) (by decide), hku, Int.toNat_natCast, Bool.and_eq_true, decide_eq_true_eq]
    refine ⟨t3.trans hA2.2.2, (ly_pin_iff hR (by omega) (by omega)).mpr ⟨pl j, d1, t1, ?_⟩⟩
    unfold sStp
    rw [d2, hA2.2.1]
    omega
  · rw [decide_eq_true_eq] at hAi hAj
    obtain ⟨a1, a2⟩ := hpl i (by omega) (hAi.1.trans hku)
    obtain ⟨b1, b2⟩ := hpl j (by omega) (hAj.1.trans hku)
    obtain ⟨t, t1, -⟩ := hA _ a1
    obtain ⟨r, r1, -⟩ := hA _ b1
    have he : (ch (pl i)).toNat = (ch (pl j)).toNat := he
    have e : pl i = pl j := laid_eq hR hA a1 b1 (by omega) (by unfold sStp; rw [a2, b2, hAi.2.1, hAj.2.1])
    rw [← a2, ← b2, e]
end LYM
