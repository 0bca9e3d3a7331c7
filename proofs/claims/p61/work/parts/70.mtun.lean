/-! A TUNE from all sides: pins by steps and by teeth, notes that are played, conflicts, what is in the way -/
/-- the pins of the steps below -/
def stP (m : Row) (u : Nat) (s : Nat) : Int := (cnt (fun t => rPin m u s t) (m 4).toNat : Int)
theorem stP_nn (m : Row) (u s : Nat) : 0 ≤ stP m u s := Int.natCast_nonneg _
theorem pins_swap (m : Row) (u : Nat) : sm (stP m u) (m 0).toNat = sPins m u := by
  have e1 : sm (stP m u) (m 0).toNat = sm (fun s => sm (fun t => if rPin m u s t = true then 1 else 0) (m 4).toNat) (m 0).toNat := sm_congr (fun s _ => cnt_sm _ _)
  have e2 : sPins m u = sm (fun t => sm (fun s => if rPin m u s t = true then 1 else 0) (m 0).toNat) (m 4).toNat := sm_congr (fun t _ => cnt_sm _ _)
  rw [e1, e2]
  exact sm_swap (fun s t => if rPin m u s t = true then 1 else 0) (m 0).toNat (m 4).toNat
theorem sm_nn {f : Nat → Int} (h : ∀ i, 0 ≤ f i) (n : Nat) : 0 ≤ sm f n := by
  induction n with
  | zero => exact Int.le_refl 0
  | succ n ih =>
    have := h n
    rw [sm_s]
    omega
theorem sm_zero_iff {f : Nat → Int} (h : ∀ i, 0 ≤ f i) (n : Nat) : sm f n = 0 ↔ ∀ i, i < n → f i = 0 := by
  refine ⟨fun q => ?_, sm_zero⟩
  induction n with
  | zero => exact fun i hi => absurd hi (Nat.not_lt_zero i)
  | succ n ih =>
    have h1 := h n
    have h2 := sm_nn h n
    rw [sm_s] at q
    intro i hi
    by_cases hin : i = n
    · rw [hin]; omega
    · exact ih (by omega) i (by omega)
theorem sm_upto {f : Nat → Int} (h : ∀ i, 0 ≤ f i) {a b : Nat} (hab : a ≤ b) : sm f a ≤ sm f b := by
  induction hab with
  | refl => exact Int.le_refl _
  | step _ ih =>
    rename_i c _
    have := h c
    rw [sm_s]
    omega
theorem pins0 (m : Row) (u : Nat) : sPins m u = 0 ↔ ∀ s, s < (m 0).toNat → cnt (fun t => rPin m u s t) (m 4).toNat = 0 := by
  rw [← pins_swap, sm_zero_iff (stP_nn m u)]
  exact ⟨fun h s hs => by have := h s hs; unfold stP at this; omega, fun h s hs => by unfold stP; rw [h s hs]; rfl⟩
theorem full0 (m : Row) (u : Nat) : ∀ n, ((sFullA m u n).1 < 0 ↔ ∀ s, s < n → cnt (fun t => rPin m u s t) (m 4).toNat = 0) ∧ ((sFullA m u n).1 < 0 → (sFullA m u n).2 = 0) ∧ (∀ s, s < n → cnt (fun t => rPin m u s t) (m 4).toNat ≤ (sFullA m u n).2) := by
  intro n
  induction n with
  | zero => exact ⟨⟨fun _ s hs => absurd hs (Nat.not_lt_zero s), fun _ => by show (-1 : Int) < 0; decide⟩, fun _ => rfl, fun s hs => absurd hs (Nat.not_lt_zero s)⟩
  | succ n ih =>
    obtain ⟨h1, h2, h3⟩ := ih
    unfold sFullA
    by_cases q : (sFullA m u n).2 < cnt (fun t => rPin m u n t) (m 4).toNat
    · rw [if_pos q]
      refine ⟨⟨fun z => absurd z (by show ¬ ((n : Nat) : Int) < 0; omega), fun z => absurd (z n (Nat.lt_succ_self n)) (by omega)⟩, fun z => absurd z (by show ¬ ((n : Nat) : Int) < 0; omega), fun s hs => ?_⟩
      show _ ≤ cnt (fun t => rPin m u n t) (m 4).toNat
      by_cases hsn : s = n
      · rw [hsn]; exact Nat.le_refl _
      · have := h3 s (by omega); omega
    · rw [if_neg q]
      refine ⟨⟨fun z s hs => ?_, fun z => h1.mpr (fun s hs => z s (by omega))⟩, h2, fun s hs => ?_⟩
      · by_cases hsn : s = n
        · rw [hsn]; have := h2 z; omega
        · exact h1.mp z s (by omega)
      · by_cases hsn : s = n
        · rw [hsn]; omega
        · exact h3 s (by omega)
theorem full_pins (m : Row) (u : Nat) : (sFullA m u (m 0).toNat).1 < 0 ↔ sPins m u = 0 := by rw [(full0 m u (m 0).toNat).1, pins0]
theorem sil0 (m : Row) (u : Nat) : ∀ n, sSilA m u n < 0 ↔ ∀ s, s < n → cnt (fun t => rPin m u s t) (m 4).toNat = 0 := by
  intro n
  induction n with
  | zero => exact ⟨fun _ s hs => absurd hs (Nat.not_lt_zero s), fun _ => by show (-1 : Int) < 0; decide⟩
  | succ n ih =>
    unfold sSilA
    by_cases q : sHasS m u n = true
    · rw [if_pos q]
      unfold sHasS at q
      rw [decide_eq_true_eq] at q
      exact ⟨fun z => absurd z (by omega), fun z => absurd (z n (Nat.lt_succ_self n)) (by omega)⟩
    · rw [if_neg q, ih]
      have q2 : cnt (fun t => rPin m u n t) (m 4).toNat = 0 := by
        unfold sHasS at q
        rw [decide_eq_true_eq] at q
        omega
      refine ⟨fun z s hs => ?_, fun z s hs => z s (by omega)⟩
      by_cases hsn : s = n
      · rw [hsn]; exact q2
      · exact z s (by omega)
theorem sil_pins (m : Row) (u : Nat) : sSilA m u (m 0).toNat < 0 ↔ sPins m u = 0 := by rw [sil0, pins0]
/-- a note that is played -/
theorem play_is {m : Row} {k : Nat} (h : 0 ≤ sPlay m k) : sPlayP m k (sPlay m k).toNat = true ∧ cnt (sPlayP m k) (sPlay m k).toNat = sLike m k := by
  obtain ⟨i, -, i2, i3, i4⟩ := sel_is (P := sPlayP m k) (x := (sLike m k : Nat)) (n := (m 4).toNat) (by
    have h1 : 0 ≤ sel (sPlayP m k) (sLike m k : Nat) (m 4).toNat := h
    omega)
  have e : sPlay m k = i := i4
  rw [e, Int.toNat_natCast]
  exact ⟨i2, by omega⟩
theorem play_at {m : Row} {k : Nat} (h : 0 ≤ sPlay m k) : rT m (sPlay m k).toNat 0 = rN m k 2 ∧ rPin m (rN m k 0).toNat (rN m k 1).toNat (sPlay m k).toNat = true := by
  have := (play_is h).1
  unfold sPlayP at this
  rw [Bool.and_eq_true, decide_eq_true_eq] at this
  exact this
/-- two notes have no pin in common -/
theorem play_inj {m : Row} {i k : Nat} (hi : i < k) (h0 : rN m i 0 = rN m k 0) (h1 : rN m i 1 = rN m k 1) (hp : 0 ≤ sPlay m k) : sPlay m i ≠ sPlay m k := by
  intro e
  have hq : 0 ≤ sPlay m i := by rw [e]; exact hp
  have a := (play_at hp).1
  have b := (play_at hq).1
  rw [e] at b
  have h2 : rN m i 2 = rN m k 2 := b.symm.trans a
  have eP : sPlayP m i = sPlayP m k := by
    funext t
    unfold sPlayP
    rw [h0, h1, h2]
  have c1 := (play_is hp).2
  have c2 := (play_is hq).2
  rw [e, eP] at c2
  have hl : sLike m i = sLike m k := c2.symm.trans c1
  have eL : sLike m k = cnt (fun j => decide (rN m j 0 = rN m i 0 ∧ rN m j 1 = rN m i 1 ∧ rN m j 2 = rN m i 2)) k := by
    unfold sLike
    rw [h0, h1, h2]
  have hm := cnt_mono (P := fun j => decide (rN m j 0 = rN m i 0 ∧ rN m j 1 = rN m i 1 ∧ rN m j 2 = rN m i 2)) (show i + 1 ≤ k by omega)
  rw [cnt_t (decide_eq_true ⟨rfl, rfl, rfl⟩), ← eL] at hm
  have : sLike m i + 1 ≤ sLike m k := hm
  omega
/-- the way on -/
theorem wayI_wN {S a w : Nat} (ha : a < S) (hw : 1 ≤ w ∧ w ≤ S) : wayI (S : Nat) (a : Nat) (wN S a w : Nat) = (w : Nat) := by
  unfold wayI wN
  split <;> split <;> omega
/-- the next pin is one -/
theorem way_pin {m : Row} (hR : RowOK m) {u t a : Nat} (ha : a < (m 0).toNat) (hp : rPin m u a t = true) : rPin m u (wN (m 0).toNat a (sWay m u t a)) t = true := by
  have h0 := hR.s
  have hf := fnd_spec (fun i => rPin m u (wN (m 0).toNat a (i + 1)) t) ((m 0).toNat - 1)
  unfold sWay
  generalize fnd (fun i => rPin m u (wN (m 0).toNat a (i + 1)) t) ((m 0).toNat - 1) = f at hf
  by_cases q : f < (m 0).toNat - 1
  · exact hf.2.2 q
  · have e : f + 1 = (m 0).toNat := by omega
    rw [e, show wN (m 0).toNat a (m 0).toNat = a from by unfold wN; split <;> omega]
    exact hp
/-- a conflict, by its place -/
theorem conf_is {m : Row} (hR : RowOK m) {u k : Nat} (hk : k < sCf m u) : ∃ t a : Nat, t < (m 4).toNat ∧ a < (m 0).toNat ∧ rPin m u a t = true ∧ rPin m u (wN (m 0).toNat a (sWay m u t a)) t = true ∧ sCfA m u (k : Nat) 0 = (t : Nat) ∧ sCfA m u (k : Nat) 1 = (a : Nat) ∧ sCfA m u (k : Nat) 2 = (wN (m 0).toNat a (sWay m u t a) : Nat) ∧ sCfA m u (k : Nat) 3 = sNeed m t - wayI (m 0) (a : Nat) (wN (m 0).toNat a (sWay m u t a) : Nat) ∧ 1 ≤ sCfA m u (k : Nat) 3 ∧ wN (m 0).toNat a (sWay m u t a) < (m 0).toNat := by
  have h0 := hR.s
  have h4 := hR.t
  obtain ⟨j, j1, j2, j3, j4⟩ := sel_ex (P := sCfP m u) (x := (k : Nat)) (n := 64 * (m 4).toNat) (by omega) (by unfold sCf at hk; omega)
  have hA : ∀ x, sCfA m u (k : Nat) x = if x = 0 then ((j / 64 : Nat) : Int) else if x = 1 then ((j % 64 : Nat) : Int) else if x = 2 then (wN (m 0).toNat (j % 64) (sWay m u (j / 64) (j % 64)) : Nat) else sShort m u (j / 64) (j % 64) := by
    intro x
    unfold sCfA
    rw [j4, if_neg (by omega), Int.toNat_natCast]
    rfl
  unfold sCfP at j2
  rw [Bool.and_eq_true, decide_eq_true_eq, decide_eq_true_eq] at j2
  have ha : j % 64 < (m 0).toNat := by omega
  have hs := j2.2
  have hpin : rPin m u (j % 64) (j / 64) = true := by
    by_cases q : rPin m u (j % 64) (j / 64) = true
    · exact q
    · unfold sShort at hs
      rw [if_neg q] at hs
      omega
  have hw := sWay_bd hR u (j / 64) (j % 64)
  have e3 : sShort m u (j / 64) (j % 64) = sNeed m (j / 64) - (sWay m u (j / 64) (j % 64) : Nat) := by
    unfold sShort at hs ⊢
    rw [if_pos hpin] at hs ⊢
    omega
  have ew := wayI_wN ha (w := sWay m u (j / 64) (j % 64)) ⟨hw.1, by omega⟩
  rw [show (((m 0).toNat : Nat) : Int) = m 0 from by omega] at ew
  refine ⟨j / 64, j % 64, by omega, ha, hpin, way_pin hR ha hpin, (hA 0).trans (if_pos rfl), ?_, ?_, ?_, ?_, wN_lt ha (by omega)⟩
  · rw [hA 1, if_neg (by decide), if_pos rfl]
  · rw [hA 2, if_neg (by decide), if_neg (by decide), if_pos rfl]
  · rw [hA 3, if_neg (by decide), if_neg (by decide), if_neg (by decide), e3, ew]
  · rw [hA 3, if_neg (by decide), if_neg (by decide), if_neg (by decide)]
    omega
/-- a collision at a place that is counted -/
theorem coll_is {m : Row} {k : Nat} (hk : k < sCo m) : ∃ j c, j < 36 ∧ c < 4096 ∧ sCo1 m j c = true ∧ (∀ x, sCoQ m (k : Nat) x = sCoA m (4096 * j + c) x) := by
  obtain ⟨c, c1, c2, -, c4⟩ := sel_ex (P := sCoP m) (x := (k : Nat)) (n := 4096 * 36) (by omega) (by unfold sCo at hk; omega)
  refine ⟨c / 4096, c % 4096, by omega, by omega, c2, fun x => ?_⟩
  unfold sCoQ
  rw [c4, if_neg (by omega), Int.toNat_natCast, show 4096 * (c / 4096) + c % 4096 = c by omega]
theorem coll_k {m : Row} {j c : Nat} (hj : j < 36) (hc : c < 4096) (h : sCo1 m j c = true) : ∃ k, k < sCo m ∧ ∀ x, sCoQ m (k : Nat) x = sCoA m (4096 * j + c) x := by
  have hP : sCoP m (4096 * j + c) = true := by
    unfold sCoP
    rw [show (4096 * j + c) / 4096 = j by omega, show (4096 * j + c) % 4096 = c by omega]
    exact h
  have hm := cnt_mono (P := sCoP m) (show 4096 * j + c + 1 ≤ 4096 * 36 by omega)
  rw [cnt_t hP] at hm
  refine ⟨cnt (sCoP m) (4096 * j + c), hm, fun x => ?_⟩
  have e := sel_at (P := sCoP m) (x := (cnt (sCoP m) (4096 * j + c) : Nat)) (n := 4096 * 36) (by omega) hP rfl
  unfold sCoQ
  rw [e, if_neg (by omega), Int.toNat_natCast]
theorem co1_UT {m : Row} {j c : Nat} (h : sCo1 m j c = true) : j + 1 < (m 1).toNat * (m 4).toNat := by
  unfold sCo1 prP at h
  rw [Bool.and_eq_true, Bool.and_eq_true] at h
  refine Nat.not_le.mp fun q => ?_
  rw [rTr_out (Or.inl q)] at h
  exact Bool.noConfusion h.2.1
/-- a tune has a collision just where one of those that are told has its pin -/
theorem has_iff {m : Row} (hR : RowOK m) {u : Nat} (hu : (u : Int) < m 1) : (∃ k, k < sCo m ∧ (sCoQ m (k : Nat) 0 = (u : Nat) ∨ sCoQ m (k : Nat) 3 = (u : Nat))) ↔ 0 < cnt (sHasT m u) (m 4).toNat := by
  have h1 := hR.u
  have h4 := hR.t
  have hU : 0 < (m 1).toNat := by omega
  have hut := (UT_le hR).1
  have A0 : ∀ j c, c < 4096 → sCoA m (4096 * j + c) 0 = ((j % (m 1).toNat : Nat) : Int) := fun j c hc => by
    unfold sCoA
    rw [if_pos rfl, show (4096 * j + c) / 4096 = j by omega]
  have A3 : ∀ j c, c < 4096 → sCoA m (4096 * j + c) 3 = (((j + 1) % (m 1).toNat : Nat) : Int) := fun j c hc => by
    unfold sCoA
    rw [if_neg (by decide), if_neg (by decide), if_neg (by decide), if_pos rfl, show (4096 * j + c) / 4096 = j by omega]
  constructor
  · rintro ⟨k, hk, h⟩
    obtain ⟨j, c, hj, hc, hT, hq⟩ := coll_is hk
    have hjU := co1_UT hT
    have hpos : 0 < cnt (sCo1 m j) 4096 := cnt_pos hc hT
    rw [hq, hq, A0 j c hc, A3 j c hc] at h
    rcases h with h | h
    · have e : (m 1).toNat * (j / (m 1).toNat) + u = j := by
        have := Nat.div_add_mod j (m 1).toNat
        omega
      refine cnt_pos (i := j / (m 1).toNat) (Nat.div_lt_of_lt_mul (by omega)) ?_
      unfold sHasT
      rw [e, decide_eq_true hpos]
      rfl
    · have e : (m 1).toNat * ((j + 1) / (m 1).toNat) + u = j + 1 := by
        have := Nat.div_add_mod (j + 1) (m 1).toNat
        omega
      refine cnt_pos (i := (j + 1) / (m 1).toNat) (Nat.div_lt_of_lt_mul hjU) ?_
      unfold sHasT
      rw [e, Nat.add_sub_cancel, decide_eq_true hpos, decide_eq_true (Nat.succ_pos j), Bool.and_self, Bool.or_true]
  · intro h
    obtain ⟨t, ht, h⟩ := cnt_ex.mp h
    have hm := trk_mod hR hu (t := t)
    unfold sHasT at h
    rw [Bool.or_eq_true, Bool.and_eq_true, decide_eq_true_eq, decide_eq_true_eq, decide_eq_true_eq] at h
    rcases h with h | ⟨h2, h⟩
    · obtain ⟨c, hc, hT⟩ := cnt_ex.mp h
      have hjU := co1_UT hT
      obtain ⟨k, hk, hq⟩ := coll_k (by omega) hc hT
      exact ⟨k, hk, Or.inl (by rw [hq, A0 _ c hc, hm.1])⟩
    · obtain ⟨c, hc, hT⟩ := cnt_ex.mp h
      have hjU := co1_UT hT
      obtain ⟨k, hk, hq⟩ := coll_k (by omega) hc hT
      refine ⟨k, hk, Or.inr ?_⟩
      rw [hq, A3 _ c hc, show (m 1).toNat * t + u - 1 + 1 = (m 1).toNat * t + u by omega, hm.1]
