/-! COLLISIONS: what the counts come to -/
theorem lAll_bits : ∀ n, n < 65 → ∀ z, z < 64 → tL (lAll (n : Nat)) z = decide (z < n) := by decide +kernel
def wS (S z k : Nat) : Nat := if k ≤ z then z - k else z + S - k
theorem lMov_bits {X : Int64} {k S z : Nat} (hS : S ≤ 64) (hk : k < S) (hX : ∀ z, S ≤ z → tL X z = false) : tL (lMov X k S) z = (decide (z < S) && tL X (wS S z k)) := by
  unfold lMov wS
  by_cases h0 : (k : Int) ≤ 0
  · rw [if_pos h0, if_pos (by omega), show z - k = z from by omega]
    by_cases hz : z < S
    · rw [decide_eq_true hz]; rfl
    · rw [decide_eq_false hz, hX z (by omega)]; rfl
  · rw [if_neg h0, if_pos (by omega), tL_and, tL_or]
    by_cases hz : z < 64
    · rw [lAll_bits S (by omega) z hz, Bool.and_comm, tL_shl ⟨by omega, by omega⟩, tL_ush ⟨by omega, by omega⟩, decide_eq_true hz, Bool.true_and, Int.toNat_natCast, show ((S : Int) - (k : Int)).toNat = S - k from by omega]
      by_cases hzS : z < S
      · rw [decide_eq_true hzS, Bool.true_and, Bool.true_and]
        by_cases hkz : k ≤ z
        · rw [if_pos hkz, decide_eq_true hkz, Bool.true_and, hX (S - k + z) (by omega), Bool.or_false]
        · rw [if_neg hkz, decide_eq_false hkz, Bool.false_and, Bool.false_or, show S - k + z = z + S - k from by omega]
      · rw [decide_eq_false hzS, Bool.false_and, Bool.false_and]
    · rw [tL_big (x := lAll (S : Nat)) (by omega), Bool.and_false, decide_eq_false (by omega), Bool.false_and]
theorem lMov_hi {X : Int64} {k S z : Nat} (hS : S ≤ 64) (hk : k < S) (hX : ∀ z, S ≤ z → tL X z = false) (hz : S ≤ z) : tL (lMov X k S) z = false := by
  rw [lMov_bits hS hk hX, decide_eq_false (by omega), Bool.false_and]
theorem nearI_0 {S a b : Int} {n : Int} (hn : n ≤ 0) (hab : wayI S a b ≥ 0) (hba : wayI S b a ≥ 0) : nearI S a b n = false := by
  unfold nearI
  exact decide_eq_false (by omega)
theorem lNear_bits {S s z : Nat} {G : Int} (hS : 8 ≤ S ∧ S ≤ 64) (hs : s < S) (hG : G ≤ 48) (hz : z < 64) : tL (lNear s G S) z = (decide (z < S) && nearI S s z G) := by
  have hw : ∀ a b : Nat, a < S → b < S → 0 < wayI S a b := by
    intro a b ha hb
    unfold wayI
    split <;> omega
  by_cases hzS : z < S
  · have w1 := hw s z hs hzS
    have w2 := hw z s hzS hs
    unfold lNear
    by_cases h0 : 0 < G
    · rw [if_pos h0]
      obtain ⟨g, rfl⟩ : ∃ g : Nat, G = g := ⟨G.toNat, by omega⟩
      have hA : ∀ z, S ≤ z → g ≤ S → tL (lAll (g : Nat)) z = false := by
        intro z hz hg
        by_cases h : z < 64
        · rw [lAll_bits g (by omega) z h, decide_eq_false (by omega)]
        · exact tL_big (by omega)
      by_cases h1 : (g : Int) < S
      · rw [if_pos h1, show ((S : Int) - (g : Int) + 1) = ((S - g + 1 : Nat) : Int) from by omega, tL_or]
        have hA' := fun z hz => hA z hz (by omega)
        have hm := fun z hz => lMov_hi (z := z) hS.2 hs hA' hz
        have e1 : tL (lMov (lAll (g : Nat)) s S) z = (decide (z < S) && decide (wS S z s < g)) := by
          rw [lMov_bits hS.2 hs hA', lAll_bits g (by omega) _ (by unfold wS; split <;> omega)]
        by_cases hg1 : g = 1
        · subst hg1
          have e2 : lMov (lMov (lAll (1 : Nat)) s S) ((S - 1 + 1 : Nat) : Int) S = lMov (lAll (1 : Nat)) s S := by
            show (if _ then _ else _) = _
            rw [if_neg (by omega), if_neg (by omega)]
          rw [e2, Bool.or_self, e1, decide_eq_true hzS, Bool.true_and, Bool.true_and]
          unfold nearI wS
          refine decide_eq_decide.mpr ⟨fun q => ?_, fun q => ?_⟩
          · split at q <;> omega
          · split <;> omega
        · have e2 : tL (lMov (lMov (lAll (g : Nat)) s S) ((S - g + 1 : Nat) : Int) S) z = (decide (z < S) && (decide (wS S z (S - g + 1) < S) && decide (wS S (wS S z (S - g + 1)) s < g))) := by
            rw [lMov_bits (k := S - g + 1) hS.2 (by omega) hm, lMov_bits hS.2 hs hA', lAll_bits g (by omega) _ (by unfold wS; split <;> split <;> omega)]
          rw [e1, e2, decide_eq_true hzS, Bool.true_and, Bool.true_and, Bool.true_and]
          rw [show decide (wS S z (S - g + 1) < S) = true from decide_eq_true (by unfold wS; split <;> omega), Bool.true_and, ← Bool.decide_or]
          unfold nearI
          refine decide_eq_decide.mpr ⟨fun q => ?_, fun q => ?_⟩
          · unfold wS at q
            unfold wayI at *
            by_cases a1 : s ≤ z <;> by_cases a2 : S - g + 1 ≤ z <;> simp only [a1, a2, if_true, if_false] at q <;> (repeat' split at q) <;> (repeat' split) <;> omega
          · unfold wS
            unfold wayI at *
            (repeat' split at q) <;> (repeat' split) <;> omega
      · rw [if_neg h1, lAll_bits S (by omega) z hz, decide_eq_true hzS, Bool.true_and]
        unfold nearI
        refine (decide_eq_true ?_).symm
        unfold wayI
        by_cases a1 : s = z
        · exact Or.inl ⟨by omega, by omega⟩
        · refine Or.inr ⟨by omega, ?_⟩
          (repeat' split) <;> omega
    · rw [if_neg h0, tL_0, nearI_0 (by omega) (by omega) (by omega), Bool.and_false]
  · rw [decide_eq_false hzS, Bool.false_and]
    unfold lNear
    by_cases h0 : 0 < G
    · rw [if_pos h0]
      obtain ⟨g, rfl⟩ : ∃ g : Nat, G = g := ⟨G.toNat, by omega⟩
      by_cases h1 : (g : Int) < S
      · have hA' : ∀ z, S ≤ z → tL (lAll (g : Nat)) z = false := by
          intro z hz
          by_cases h : z < 64
          · rw [lAll_bits g (by omega) z h, decide_eq_false (by omega)]
          · exact tL_big (by omega)
        have hm := fun z hz => lMov_hi (z := z) hS.2 hs hA' hz
        rw [if_pos h1, show ((S : Int) - (g : Int) + 1) = ((S - g + 1 : Nat) : Int) from by omega, tL_or, hm z (by omega)]
        by_cases hg1 : g = 1
        · subst hg1
          have e2 : lMov (lMov (lAll (1 : Nat)) s S) ((S - 1 + 1 : Nat) : Int) S = lMov (lAll (1 : Nat)) s S := by
            show (if _ then _ else _) = _
            rw [if_neg (by omega), if_neg (by omega)]
          rw [e2, hm z (by omega)]; rfl
        · rw [lMov_hi (k := S - g + 1) hS.2 (by omega) hm (by omega)]; rfl
      · rw [if_neg h1, lAll_bits S (by omega) z hz, decide_eq_false hzS]
    · rw [if_neg h0, tL_0]
/-! counting pairs -/
theorem cnt_cyc (X Y : Nat → Bool) {S k : Nat} (hk : k ≤ S) : cnt (fun z => X (wS S z k) && Y z) S = cnt (fun s => X s && Y (wN S s k)) S := by
  have e1 : cnt (fun z => X (wS S z k) && Y z) S = cnt (fun i => X (S - k + i) && Y i) k + cnt (fun i => X i && Y (k + i)) (S - k) := by
    have := cnt_split (fun z => X (wS S z k) && Y z) k (S - k)
    rw [show k + (S - k) = S from by omega] at this
    rw [this]
    refine congr (congrArg _ (cnt_congr (fun i hi => ?_))) (cnt_congr (fun i hi => ?_))
    · show (X (wS S i k) && Y i) = _
      unfold wS
      rw [if_neg (by omega), show i + S - k = S - k + i from by omega]
    · show (X (wS S (k + i) k) && Y (k + i)) = _
      unfold wS
      rw [if_pos (by omega), show k + i - k = i from by omega]
  have e2 : cnt (fun s => X s && Y (wN S s k)) S = cnt (fun i => X i && Y (k + i)) (S - k) + cnt (fun i => X (S - k + i) && Y i) k := by
    have := cnt_split (fun s => X s && Y (wN S s k)) (S - k) k
    rw [show S - k + k = S from by omega] at this
    rw [this]
    refine congr (congrArg _ (cnt_congr (fun i hi => ?_))) (cnt_congr (fun i hi => ?_))
    · show (X i && Y (wN S i k)) = _
      unfold wN
      rw [if_pos (by omega), Nat.add_comm]
    · show (X (S - k + i) && Y (wN S (S - k + i) k)) = _
      unfold wN
      rw [if_neg (by omega), show S - k + i + k - S = i from by omega]
  omega
theorem cnt_point (Y : Nat → Bool) (p : Nat) : ∀ n : Nat, cnt (fun z => Y z && decide (z = p)) n = if p < n ∧ Y p = true then 1 else 0 := by
  intro n
  induction n with
  | zero => rw [if_neg (by omega)]; rfl
  | succ n ih =>
    rw [cnt_s, ih]
    by_cases h : n = p
    · subst h
      rw [if_neg (by omega), decide_eq_true rfl, Bool.and_true]
      by_cases q : Y n = true
      · rw [if_pos q, if_pos ⟨by omega, q⟩]
      · rw [if_neg q, if_neg (fun z => q z.2)]
    · rw [decide_eq_false h, Bool.and_false, if_neg (show ¬ (false = true) from Bool.false_ne_true), Nat.add_zero]
      by_cases q : p < n ∧ Y p = true
      · rw [if_pos q, if_pos ⟨by omega, q.2⟩]
      · rw [if_neg q, if_neg (fun z => q ⟨by omega, z.2⟩)]
theorem cnt_or {P Q : Nat → Bool} {n : Nat} (h : ∀ i, i < n → P i = true → Q i = false) : cnt (fun i => P i || Q i) n = cnt P n + cnt Q n := by
  induction n with
  | zero => rfl
  | succ n ih =>
    rw [cnt_s, cnt_s, cnt_s, ih (fun i hi => h i (by omega))]
    have := h n (by omega)
    cases hp : P n with
    | true => rw [this hp]; simp; omega
    | false => simp; omega
theorem cnt_flat (P : Nat → Bool) (n : Nat) : (cnt P (64 * n) : Int) = sm (fun s => (cnt (fun z => P (64 * s + z)) 64 : Int)) n := by
  induction n with
  | zero => rfl
  | succ n ih => rw [sm_s, ← ih, show 64 * (n + 1) = 64 * n + 64 from by omega, cnt_split]; omega
theorem cnt_cut {P : Nat → Bool} {S : Nat} (hS : S ≤ 64) (h : ∀ z, S ≤ z → z < 64 → P z = false) : cnt P 64 = cnt P S := (cnt_gap hS h).symm
/-- how many of a set lie near a place -/
theorem near_cnt (Y : Nat → Bool) {S s : Nat} {g : Nat} (hS : 8 ≤ S) (hs : s < S) (hg : g ≤ 3) : (cnt (fun z => Y z && nearI S s z g) S : Int) = sm (fun w => (if Y (wN S s w) = true then 1 else 0) + (if 0 < w then (if Y (wS S s w) = true then 1 else 0) else 0)) g := by
  have pt : ∀ p, p < S → (cnt (fun z => Y z && decide (z = p)) S : Int) = if Y p = true then 1 else 0 := by
    intro p hp
    rw [cnt_point]
    by_cases q : Y p = true
    · rw [if_pos ⟨hp, q⟩, if_pos q]; rfl
    · rw [if_neg (fun z => q z.2), if_neg q]; rfl
  have n1 : wN S s 1 < S := wN_lt hs (by omega)
  have n2 : wN S s 2 < S := wN_lt hs (by omega)
  have m1 : wS S s 1 < S := by unfold wS; split <;> omega
  have m2 : wS S s 2 < S := by unfold wS; split <;> omega
  have e0 : wN S s 0 = s := by unfold wN; rw [if_pos (by omega)]; rfl
  have cases4 : g = 0 ∨ g = 1 ∨ g = 2 ∨ g = 3 := by omega
  rcases cases4 with rfl | rfl | rfl | rfl
  · rw [cnt_zero (fun z hz => ?_)]
    · rfl
    · rw [nearI_0 (by decide) (by unfold wayI; split <;> omega) (by unfold wayI; split <;> omega), Bool.and_false]
  · have e : cnt (fun z => Y z && nearI S s z (1 : Nat)) S = cnt (fun z => Y z && decide (z = s)) S := cnt_congr (fun z hz => by
      congr 1
      unfold nearI wayI
      refine decide_eq_decide.mpr ⟨fun q => ?_, fun q => ?_⟩
      · (repeat' split at q) <;> omega
      · exact Or.inl ⟨by omega, by decide⟩)
    rw [e, pt s hs]
    show _ = (0 : Int) + (_ + 0)
    rw [e0]
    omega
  · have e : cnt (fun z => Y z && nearI S s z (2 : Nat)) S = cnt (fun z => (Y z && decide (z = s)) || ((Y z && decide (z = wN S s 1)) || (Y z && decide (z = wS S s 1)))) S := cnt_congr (fun z hz => by
      rw [← Bool.and_or_distrib_left, ← Bool.and_or_distrib_left, ← Bool.decide_or, ← Bool.decide_or]
      congr 1
      unfold nearI wayI wN wS
      refine decide_eq_decide.mpr ⟨fun q => ?_, fun q => ?_⟩
      · (repeat' split at q) <;> (repeat' split) <;> omega
      · (repeat' split at q) <;> (repeat' split) <;> omega)
    rw [e, cnt_or, cnt_or]
    · have a := pt s hs
      have b := pt _ n1
      have c := pt _ m1
      rw [Int.natCast_add, Int.natCast_add, a, b, c]
      show _ = (0 : Int) + ((if Y (wN S s 0) = true then (1 : Int) else 0) + 0) + ((if Y (wN S s 1) = true then (1 : Int) else 0) + (if Y (wS S s 1) = true then (1 : Int) else 0))
      rw [e0]
      omega
    · intro i hi h
      rw [Bool.and_eq_true] at h
      have h2 := of_decide_eq_true h.2
      rw [decide_eq_false (by unfold wN at h2; unfold wS; (repeat' split at h2) <;> (repeat' split) <;> omega), Bool.and_false]
    · intro i hi h
      rw [Bool.and_eq_true] at h
      have h2 := of_decide_eq_true h.2
      rw [decide_eq_false (by unfold wN; (repeat' split) <;> omega), decide_eq_false (by unfold wS; (repeat' split) <;> omega), Bool.and_false]; rfl
  · have e : cnt (fun z => Y z && nearI S s z (3 : Nat)) S = cnt (fun z => (Y z && decide (z = s)) || ((Y z && decide (z = wN S s 1)) || ((Y z && decide (z = wS S s 1)) || ((Y z && decide (z = wN S s 2)) || (Y z && decide (z = wS S s 2)))))) S := cnt_congr (fun z hz => by
      rw [← Bool.and_or_distrib_left, ← Bool.and_or_distrib_left, ← Bool.and_or_distrib_left, ← Bool.and_or_distrib_left, ← Bool.decide_or, ← Bool.decide_or, ← Bool.decide_or, ← Bool.decide_or]
      congr 1
      unfold nearI wayI wN wS
      refine decide_eq_decide.mpr ⟨fun q => ?_, fun q => ?_⟩
      · (repeat' split at q) <;> (repeat' split) <;> omega
      · (repeat' split at q) <;> (repeat' split) <;> omega)
    rw [e, cnt_or, cnt_or, cnt_or, cnt_or]
    · have a := pt s hs
      have b := pt _ n1
      have c := pt _ m1
      have d := pt _ n2
      have f := pt _ m2
      rw [Int.natCast_add, Int.natCast_add, Int.natCast_add, Int.natCast_add, a, b, c, d, f]
      show _ = (0 : Int) + ((if Y (wN S s 0) = true then (1 : Int) else 0) + 0) + ((if Y (wN S s 1) = true then (1 : Int) else 0) + (if Y (wS S s 1) = true then (1 : Int) else 0)) + ((if Y (wN S s 2) = true then (1 : Int) else 0) + (if Y (wS S s 2) = true then (1 : Int) else 0))
      rw [e0]
      omega
    · intro i hi h
      rw [Bool.and_eq_true] at h
      have h2 := of_decide_eq_true h.2
      rw [decide_eq_false (by unfold wN at h2; unfold wS; (repeat' split at h2) <;> (repeat' split) <;> omega), Bool.and_false]
    · intro i hi h
      rw [Bool.and_eq_true] at h
      have h2 := of_decide_eq_true h.2
      rw [decide_eq_false (by unfold wS at h2; unfold wN; (repeat' split at h2) <;> (repeat' split) <;> omega), decide_eq_false (by unfold wS at h2 ⊢; (repeat' split at h2) <;> (repeat' split) <;> omega), Bool.and_false]; rfl
    · intro i hi h
      rw [Bool.and_eq_true] at h
      have h2 := of_decide_eq_true h.2
      rw [decide_eq_false (p := i = wS S s 1) (by unfold wN at h2; unfold wS; (repeat' split at h2) <;> (repeat' split) <;> omega), decide_eq_false (p := i = wN S s 2) (by unfold wN at h2 ⊢; (repeat' split at h2) <;> (repeat' split) <;> omega), decide_eq_false (p := i = wS S s 2) (by unfold wN at h2; unfold wS; (repeat' split at h2) <;> (repeat' split) <;> omega), Bool.and_false]; rfl
    · intro i hi h
      rw [Bool.and_eq_true] at h
      have h2 := of_decide_eq_true h.2
      rw [decide_eq_false (p := i = wN S s 1) (by unfold wN; (repeat' split) <;> omega), decide_eq_false (p := i = wS S s 1) (by unfold wS; (repeat' split) <;> omega), decide_eq_false (p := i = wN S s 2) (by unfold wN; (repeat' split) <;> omega), decide_eq_false (p := i = wS S s 2) (by unfold wS; (repeat' split) <;> omega), Bool.and_false]; rfl
/-- pairs near one another -/
def prP (X Y : Nat → Bool) (S g : Int) (c : Nat) : Bool := X (c / 64) && (Y (c % 64) && nearI S (c / 64 : Nat) (c % 64 : Nat) g)
theorem prP_at {X Y : Nat → Bool} {S g : Int} {s z : Nat} (hz : z < 64) : prP X Y S g (64 * s + z) = (X s && (Y z && nearI S s z g)) := by
  unfold prP
  rw [Nat.mul_add_mod, Nat.mod_eq_of_lt hz, Nat.mul_add_div (by decide), Nat.div_eq_of_lt hz, Nat.add_zero]
theorem lPrs_eq {X Y : Int64} {S g : Nat} (hS : 8 ≤ S ∧ S ≤ 64) (hg : g ≤ 3) (hX : ∀ z, S ≤ z → tL X z = false) (hY : ∀ z, S ≤ z → tL Y z = false) : lPrs X Y g S = (cnt (prP (tL X) (tL Y) S g) 4096 : Nat) := by
  have e1 : (cnt (prP (tL X) (tL Y) S g) 4096 : Int) = sm (fun s => if tL X s = true then (cnt (fun z => tL Y z && nearI S s z g) S : Int) else 0) S := by
    rw [show (4096 : Nat) = 64 * 64 from rfl, cnt_flat]
    have : ∀ n, S ≤ n → sm (fun s => (cnt (fun z => prP (tL X) (tL Y) S g (64 * s + z)) 64 : Int)) n = sm (fun s => (cnt (fun z => prP (tL X) (tL Y) S g (64 * s + z)) 64 : Int)) S := by
      intro n hn
      induction hn with
      | refl => rfl
      | step hn ih =>
        rw [sm_s, ih, cnt_zero (fun z hz => ?_)]
        · exact Int.add_zero _
        · rw [prP_at hz, hX _ hn, Bool.false_and]
    rw [this 64 hS.2]
    refine sm_congr (fun s hs => ?_)
    by_cases q : tL X s = true
    · rw [if_pos q, cnt_cut (S := S) hS.2 (fun z h1 h2 => by rw [prP_at h2, hY z h1, Bool.false_and, Bool.and_false])]
      exact congrArg _ (cnt_congr (fun z hz => by rw [prP_at (by omega), q]; rfl))
    · rw [if_neg q, cnt_zero (fun z hz => by rw [prP_at hz, Bool.eq_false_iff.mpr q, Bool.false_and])]
      rfl
  rw [e1]
  have e2 : sm (fun s => if tL X s = true then (cnt (fun z => tL Y z && nearI S s z g) S : Int) else 0) S = sm (fun s => sm (fun w => (if (tL X s && tL Y (wN S s w)) = true then 1 else 0) + (if 0 < w then (if (tL X s && tL Y (wS S s w)) = true then 1 else 0) else 0)) g) S := by
    refine sm_congr (fun s hs => ?_)
    by_cases q : tL X s = true
    · rw [if_pos q, near_cnt (tL Y) hS.1 hs hg]
      refine sm_congr (fun w _ => ?_)
      rw [q, Bool.true_and, Bool.true_and]
    · rw [if_neg q]
      refine (sm_zero (fun w _ => ?_)).symm
      rw [Bool.eq_false_iff.mpr q, Bool.false_and, Bool.false_and, if_neg (by decide)]
      split <;> rfl
  rw [e2, sm_swap]
  unfold lPrs
  rw [Int.toNat_natCast]
  refine sm_congr (fun w hw => ?_)
  rw [sm_add]
  unfold lPrf
  have a1 : (cnt (tL (lMov X w S &&& Y)) 64 : Int) = sm (fun s => if (tL X s && tL Y (wN S s w)) = true then 1 else 0) S := by
    rw [← cnt_sm, ← cnt_cyc (tL X) (tL Y) (S := S) (k := w) (by omega), cnt_cut (S := S) hS.2 (fun z h1 _ => by rw [tL_and, hY z h1, Bool.and_false])]
    exact congrArg _ (cnt_congr (fun z hz => by rw [tL_and, lMov_bits hS.2 (by omega) hX, decide_eq_true hz, Bool.true_and]))
  rw [a1]
  congr 1
  by_cases q : 0 < w
  · rw [if_pos q, cnt_cut (S := S) hS.2 (fun z h1 _ => by rw [tL_and, hX z h1, Bool.and_false]), cnt_sm]
    refine sm_congr (fun z hz => ?_)
    rw [if_pos q, tL_and, lMov_bits hS.2 (by omega) hY, decide_eq_true hz, Bool.true_and, Bool.and_comm]
  · rw [if_neg q]
    exact (sm_zero (fun z _ => by rw [if_neg q])).symm

