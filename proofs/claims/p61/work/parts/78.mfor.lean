/-! WHAT IS FORESEEN COMES: in rows -/
section MFS
variable {m x : Row}
/-- the memory's place of the next pluck -/
def sSl (m : Row) : Nat := 443 + 4 * ((m 9).toNat % 100) + 1
def sPs (m : Row) (t0 : Nat) (x : Row) : Prop := m 9 < x 9 ∧ (x 9 - m 9 ≤ 100 → x (sSl m) = (t0 : Int))
theorem sPs_pluck {t0 t : Nat} (h9 : 0 ≤ m 9) (ht : t < 12) (h : sPs m t0 x) : sPs m t0 (rPluck x t) := by
  obtain ⟨h1, h2⟩ := h
  unfold sPs
  rw [rPluck_9]
  refine ⟨by omega, fun q => ?_⟩
  rw [← h2 (by omega)]
  obtain ⟨a, ha⟩ := nat_of h9
  obtain ⟨b, hb⟩ := nat_of (show 0 ≤ x 9 by omega)
  have e : ¬ b % 100 = a % 100 := by omega
  unfold sSl rPluck
  rw [ha, hb, Int.toNat_natCast, Int.toNat_natCast]
  rw [if_neg (by omega), if_neg (by omega), if_neg (by omega), if_neg (by omega), if_neg (by omega), if_neg (by omega), if_neg (by omega), if_neg (by omega), if_neg (by omega)]
theorem sPs_first {t : Nat} (h : x 9 = m 9) : sPs m t (rPluck x t) := by
  unfold sPs
  rw [rPluck_9]
  refine ⟨by omega, fun _ => ?_⟩
  unfold sSl rPluck
  rw [h, if_neg (by omega), if_pos rfl]
theorem sPs_tk {t0 : Nat} (h9 : 0 ≤ m 9) (h : sPs m t0 x) : ∀ i : Nat, i ≤ 12 → sPs m t0 (rTk x i) := by
  intro i
  induction i with
  | zero => intro _; exact h
  | succ i ih =>
    intro hi
    unfold rTk
    split
    · exact sPs_pluck h9 (by omega) (ih (by omega))
    · exact ih (by omega)
theorem rTk_none : ∀ i : Nat, (∀ t, t < i → rPin x (x 6).toNat (x 7).toNat t = false) → rTk x i = x := by
  intro i
  induction i with
  | zero => intro _; rfl
  | succ i ih =>
    intro h
    unfold rTk
    rw [if_neg (by rw [h i (by omega)]; decide)]
    exact ih (fun t ht => h t (by omega))
theorem sPs_tk1 {t0 : Nat} (h9 : 0 ≤ m 9) (h : x 9 = m 9) (hp : rPin x (x 6).toNat (x 7).toNat t0 = true) (hn : ∀ t, t < t0 → rPin x (x 6).toNat (x 7).toNat t = false) : ∀ d : Nat, t0 + 1 + d ≤ 12 → sPs m t0 (rTk x (t0 + 1 + d)) := by
  intro d
  induction d with
  | zero =>
    intro _
    show sPs m t0 (if rPin x (x 6).toNat (x 7).toNat t0 = true then rPluck (rTk x t0) t0 else rTk x t0)
    rw [if_pos hp, rTk_none t0 hn]
    exact sPs_first h
  | succ d ih =>
    intro hd
    show sPs m t0 (if rPin x (x 6).toNat (x 7).toNat (t0 + 1 + d) = true then rPluck (rTk x (t0 + 1 + d)) (t0 + 1 + d) else rTk x (t0 + 1 + d))
    split
    · exact sPs_pluck h9 (by omega) (ih (by omega))
    · exact ih (by omega)
theorem sPs_tick {t0 : Nat} (h : sPs m t0 (rTk x (x 4).toNat)) : sPs m t0 (rTick x) := by
  have e : rTick x (sSl m) = rTk x (x 4).toNat (sSl m) := rTick_hi (by unfold sSl; omega)
  unfold sPs
  rw [rTick_hi (by decide), e]
  exact h
/-- what a run keeps -/
theorem rRun_is (h : RowOK m) (hF : m 9 ≤ 12 * m 8) {n : Nat} (hn : m 8 + n ≤ 100200) : (∀ j, j < 7 → rRun m n j = m j) ∧ (∀ j, 71 ≤ j → j < 443 → rRun m n j = m j) ∧ (n < (m 0).toNat → rRun m n 7 = (wN (m 0).toNat (m 7).toNat n : Nat)) := by
  have h0 := h.s
  have h7 := h.ps
  induction n with
  | zero =>
    refine ⟨fun _ _ => rfl, fun _ _ _ => rfl, fun _ => ?_⟩
    show m 7 = _
    unfold wN
    rw [if_pos (by omega)]
    omega
  | succ n ih =>
    obtain ⟨i1, i2, i3⟩ := ih (by omega)
    have hok := (rRun_ok h hF n (by omega)).1
    refine ⟨fun j hj => ?_, fun j h1 h2 => ?_, fun hS => ?_⟩
    · show rTick (rRun m n) j = _
      rw [rTick_lo hj, i1 j hj]
    · show rTick (rRun m n) j = _
      rw [rTick_mid hok h1 h2, i2 j h1 h2]
    · show (if (rRun m n) 7 + 1 < (rRun m n) 0 then (rRun m n) 7 + 1 else 0) = _
      rw [i1 0 (by decide), i3 (by omega)]
      unfold wN
      split <;> split <;> split <;> omega
theorem rRun_pin (h : RowOK m) (hF : m 9 ≤ 12 * m 8) {n : Nat} (hn : m 8 + n ≤ 100200) {u s t : Nat} (hu : u < 3) (hs : s < 64) : rPin (rRun m n) u s t = rPin m u s t := by
  unfold rPin
  rw [(rRun_is h hF hn).2.1 _ (by omega) (by omega)]
/-- no pin in the tune that is played: nothing is plucked -/
theorem rRun_quiet (h : RowOK m) (hF : m 9 ≤ 12 * m 8) (hq : ∀ j, j < 12 * (m 0).toNat → sNT m j = false) : ∀ n : Nat, m 8 + n ≤ 100200 → rRun m n 9 = m 9 := by
  have h0 := h.s
  have h4 := h.t
  have h6 := h.pu
  have h1 := h.u
  have h7 := h.ps
  intro n
  induction n with
  | zero => intro _; rfl
  | succ n ih =>
    intro hn
    have hk := (rRun_is h hF (n := n) (by omega))
    have hok := (rRun_ok h hF n (by omega)).1
    have p7 := hok.ps
    rw [hk.1 0 (by decide)] at p7
    have e4 : (rRun m n 4).toNat = (m 4).toNat := by rw [hk.1 4 (by decide)]
    show rTick (rRun m n) 9 = _
    rw [rTick_hi (by decide), rTk_none _ (fun t ht => ?_), ih (by omega)]
    rw [e4] at ht
    rw [rRun_pin h hF (by omega) (by rw [hk.1 6 (by decide)]; omega) (by omega), hk.1 6 (by decide)]
    obtain ⟨s, hs⟩ := nat_of p7.1
    rw [hs, Int.toNat_natCast]
    obtain ⟨i, hi, he⟩ : ∃ i, i < (m 0).toNat ∧ wN (m 0).toNat (m 7).toNat i = s := by
      by_cases q : (m 7).toNat ≤ s
      · exact ⟨s - (m 7).toNat, by omega, by unfold wN; rw [if_pos (by omega)]; omega⟩
      · exact ⟨s + (m 0).toNat - (m 7).toNat, by omega, by unfold wN; rw [if_neg (by omega)]; omega⟩
    have := hq (12 * i + t) (by omega)
    rw [sNT_at (by omega), decide_eq_true (by omega), Bool.true_and, he] at this
    exact this
/-- the first pluck of a run -/
theorem rRun_first (h : RowOK m) (hF : m 9 ≤ 12 * m 8) {i0 t0 : Nat} (ht : t0 < 12) (hi : i0 < (m 0).toNat) (hp : sNT m (12 * i0 + t0) = true) (hn : ∀ j, j < 12 * i0 + t0 → sNT m j = false) : ∀ n : Nat, m 8 + n ≤ 100200 → (n ≤ i0 → rRun m n 9 = m 9) ∧ (i0 < n → sPs m t0 (rRun m n)) := by
  have h0 := h.s
  have h4 := h.t
  have h6 := h.pu
  have h1 := h.u
  have h7 := h.ps
  have h9 := h.pp
  intro n
  induction n with
  | zero => intro _; exact ⟨fun _ => rfl, fun q => absurd q (by omega)⟩
  | succ n ih =>
    intro hb
    obtain ⟨i1, i2⟩ := ih (by omega)
    have hk := (rRun_is h hF (n := n) (by omega))
    have e4 : (rRun m n 4).toNat = (m 4).toNat := by rw [hk.1 4 (by decide)]
    have hpin : n < (m 0).toNat → ∀ t, t < (m 4).toNat → rPin (rRun m n) (rRun m n 6).toNat (rRun m n 7).toNat t = sNT m (12 * n + t) := fun hS t ht => by
      have hw := wN_lt (S := (m 0).toNat) (s := (m 7).toNat) (i := n) (by omega) (by omega)
      rw [rRun_pin h hF (by omega) (by rw [hk.1 6 (by decide)]; omega) (by rw [hk.2.2 hS]; omega), hk.1 6 (by decide), hk.2.2 hS, Int.toNat_natCast, sNT_at (by omega), decide_eq_true (by omega), Bool.true_and]
    refine ⟨fun q => ?_, fun q => ?_⟩
    · show rTick (rRun m n) 9 = _
      rw [rTick_hi (by decide), e4, rTk_none _ (fun t ht => ?_), i1 (by omega)]
      rw [hpin (by omega) t ht]
      exact hn _ (by omega)
    · show sPs m t0 (rTick (rRun m n))
      refine sPs_tick ?_
      rw [e4]
      by_cases e : n = i0
      · subst e
        have ht4 : t0 < (m 4).toNat := by
          have := hp
          rw [sNT_at ht, Bool.and_eq_true] at this
          have := of_decide_eq_true this.1
          omega
        have := sPs_tk1 (m := m) (x := rRun m n) (t0 := t0) h9.1 (i1 (Nat.le_refl _)) (by rw [hpin hi t0 ht4]; exact hp) (fun t hlt => by rw [hpin hi t (by omega)]; exact hn _ (by omega)) ((m 4).toNat - (t0 + 1)) (by omega)
        rw [show t0 + 1 + ((m 4).toNat - (t0 + 1)) = (m 4).toNat by omega] at this
        exact this
      · exact sPs_tk h9.1 (i2 (by omega)) _ (by omega)
theorem heard_next (h : RowOK m) (hF : m 9 ≤ 12 * m 8) {n : Nat} (hn : m 8 + n ≤ 100200) (h1 : 0 < rRun m n 9 - m 9) (h2 : rRun m n 9 - m 9 ≤ 100) : sHeard (rRun m n) (m 9) 1 = sNxt m := by
  have h9 := h.pp
  obtain ⟨f1, f2, f3⟩ := fnd_spec (sNT m) (12 * (m 0).toNat)
  unfold sNxt
  generalize fnd (sNT m) (12 * (m 0).toNat) = f at f1 f2 f3 ⊢
  by_cases q : f < 12 * (m 0).toNat
  · rw [if_pos q]
    have e : 12 * (f / 12) + f % 12 = f := by omega
    have := rRun_first h hF (i0 := f / 12) (t0 := f % 12) (by omega) (by omega) (by rw [e]; exact f3 q) (by rw [e]; exact f2) n hn
    have hp : sPs m (f % 12) (rRun m n) := this.2 (by
      by_cases z : n ≤ f / 12
      · have := this.1 z
        omega
      · omega)
    unfold sHeard
    rw [if_pos ⟨h9.1, by omega, by omega⟩]
    exact hp.2 h2
  · exfalso
    have := rRun_quiet h hF (fun j hj => f2 j (by omega)) n hn
    omega
/-- buzzes only grow -/
theorem rTk_10 : ∀ i : Nat, x 10 ≤ rTk x i 10 := by
  intro i
  induction i with
  | zero => exact Int.le_refl _
  | succ i ih =>
    unfold rTk
    split
    · have := rBuzz_bd (rTk x i) i
      rw [rPluck_10]
      omega
    · exact ih
theorem rRun_10 : ∀ n : Nat, m 10 ≤ rRun m n 10 := by
  intro n
  induction n with
  | zero => exact Int.le_refl _
  | succ n ih =>
    have := rTk_10 (x := rRun m n) (rRun m n 4).toNat
    show _ ≤ rTick (rRun m n) 10
    rw [rTick_hi (by decide)]
    omega
theorem rTk_9 : ∀ i : Nat, x 9 ≤ rTk x i 9 := by
  intro i
  induction i with
  | zero => exact Int.le_refl _
  | succ i ih =>
    unfold rTk
    split
    · rw [rPluck_9]
      omega
    · exact ih
theorem rRun_9 : ∀ n : Nat, m 9 ≤ rRun m n 9 := by
  intro n
  induction n with
  | zero => exact Int.le_refl _
  | succ n ih =>
    have := rTk_9 (x := rRun m n) (rRun m n 4).toNat
    show _ ≤ rTick (rRun m n) 9
    rw [rTick_hi (by decide)]
    omega
theorem sFst_bd (m : Row) : -1 ≤ sFst m ∧ sFst m < max (3 * (m 0).toNat : Nat) 1 := by
  unfold sFst
  split <;> omega
theorem sFst_is (h : 0 ≤ sFst m) : rRun m (sFst m).toNat 10 = m 10 ∧ m 10 < rRun m ((sFst m).toNat + 1) 10 := by
  obtain ⟨f1, f2, f3⟩ := fnd_spec (sFB m) (3 * (m 0).toNat)
  unfold sFst at h ⊢
  generalize fnd (sFB m) (3 * (m 0).toNat) = f at f1 f2 f3 h ⊢
  by_cases q : f < 3 * (m 0).toNat
  · rw [if_pos q, Int.toNat_natCast]
    refine ⟨?_, of_decide_eq_true (f3 q)⟩
    have h2 := rRun_10 (m := m) f
    cases f with
    | zero => rfl
    | succ f =>
      have := of_decide_eq_false (f2 f (Nat.lt_succ_self _))
      omega
  · rw [if_neg q] at h
    omega
/-- turns, one step each -/
theorem wS_bd {S z k : Nat} (hz : z < S) (hk : k ≤ S) (h0 : k = S → z < S) : wS S z k < S + (if k = 0 then 1 else 0) := by
  unfold wS
  split <;> split <;> omega
theorem rMv_is (h : RowOK m) (u : Nat) : ∀ k : Nat, k < (m 0).toNat → rMv m u k = rMoveP m u k := by
  have h0 := h.s
  intro k
  induction k with
  | zero =>
    intro _
    show m = rMoveP m u 0
    funext j
    unfold rMoveP rSetP
    split
    · have e : wS (m 0).toNat (j - (251 + 64 * u)) 0 = j - (251 + 64 * u) := by unfold wS; rw [if_pos (by omega)]; rfl
      show m j = m (251 + 64 * u + wS (m 0).toNat (j - (251 + 64 * u)) 0)
      rw [e]
      exact congrArg m (by omega)
    · rfl
  | succ k ih =>
    intro hk
    show rMoveP (rMv m u k) u 1 = _
    rw [ih (by omega)]
    have e0 : rMoveP m u k 0 = m 0 := rSetP_lo (by decide)
    funext j
    show rSetP (rMoveP m u k) u (fun s => (rMoveP m u k) (251 + 64 * u + wS ((rMoveP m u k) 0).toNat s 1)) j = rMoveP m u (k + 1) j
    rw [e0]
    unfold rSetP
    rw [e0]
    by_cases q : 251 + 64 * u ≤ j ∧ (j : Int) < 251 + 64 * u + m 0
    · rw [if_pos q]
      show rMoveP m u k (251 + 64 * u + wS (m 0).toNat (j - (251 + 64 * u)) 1) = rMoveP m u (k + 1) j
      have hw : wS (m 0).toNat (j - (251 + 64 * u)) 1 < (m 0).toNat := by unfold wS; split <;> omega
      have e1 : rMoveP m u k (251 + 64 * u + wS (m 0).toNat (j - (251 + 64 * u)) 1) = m (251 + 64 * u + wS (m 0).toNat (wS (m 0).toNat (j - (251 + 64 * u)) 1) k) := rSetP_same (by omega)
      have e2 : rMoveP m u (k + 1) j = m (251 + 64 * u + wS (m 0).toNat (j - (251 + 64 * u)) (k + 1)) := by
        have := rSetP_same (m := m) (u := u) (g := fun s => m (251 + 64 * u + wS (m 0).toNat s (k + 1))) (s := j - (251 + 64 * u)) (by omega)
        rw [show 251 + 64 * u + (j - (251 + 64 * u)) = j by omega] at this
        exact this
      rw [e1, e2]
      refine congrArg (fun z => m (251 + 64 * u + z)) ?_
      unfold wS
      split <;> split <;> split <;> omega
    · rw [if_neg q]
      show (if _ then _ else m j) = (if _ then _ else m j)
      rw [if_neg q, if_neg q]
theorem sCo_pins {x y : Row} (h0 : x 0 = y 0) (h1 : x 1 = y 1) (h2 : x 2 = y 2) (h4 : x 4 = y 4) (hp : ∀ j, 251 ≤ j → x j = y j) : sCo x = sCo y := by
  have e : rTr x = rTr y := by
    funext j s
    unfold rTr rPin
    rw [h0, h1, h4, hp _ (by omega)]
  have e2 : sCoP x = sCoP y := by
    funext c
    unfold sCoP sCo1
    rw [e, h0, h2]
  unfold sCo
  rw [e2]
theorem sCo_turn (h : RowOK m) {u k : Nat} (hu : (u : Int) < m 1) (hk : (k : Int) < m 0) : sCo (sTurnR m (u : Nat) (k : Nat)) = sCo (rMv m u k) := by
  have h1 := h.u
  rw [rMv_is h u k (by omega)]
  have hok : RowOK (rMoveP m u k) := rSetP_ok h (fun s hs => by
    have h0 := h.s
    have hw : wS (m 0).toNat s k < (m 0).toNat := by unfold wS; split <;> omega
    have := h.P (u := u) (s := wS (m 0).toNat s k) hu (by omega)
    exact this)
  unfold sTurnR
  rw [Int.toNat_natCast, Int.toNat_natCast]
  exact sCo_pins (rSetN_lo (by decide)) (rSetN_lo (by decide)) (rSetN_lo (by decide)) (rSetN_lo (by decide)) (fun j hj => rSetN_hi hok hj)
theorem sTurnA_is (m : Row) (u : Nat) : ∀ i : Nat, (sTurnA m u i).2 ≤ sCo m ∧ sCo (rMv m u (sTurnA m u i).1.toNat) = (sTurnA m u i).2 := by
  intro i
  induction i with
  | zero => exact ⟨Nat.le_refl _, rfl⟩
  | succ i ih =>
    unfold sTurnA
    split
    · rename_i q
      refine ⟨by show sCo (rMv m u (i + 1)) ≤ sCo m; omega, ?_⟩
      show sCo (rMv m u ((i + 1 : Nat) : Int).toNat) = sCo (rMv m u (i + 1))
      rw [Int.toNat_natCast]
    · exact ih
theorem best_turn (h : RowOK m) {u : Nat} (hu : (u : Int) < m 1) : (0 ≤ (sTurnA m u ((m 0).toNat - 1)).1 ∧ (sTurnA m u ((m 0).toNat - 1)).1 < m 0) ∧ sCo (sTurnR m (u : Nat) (sTurnA m u ((m 0).toNat - 1)).1) ≤ sCo m := by
  have h0 := h.s
  have hb := sTurnA_bd m u ((m 0).toNat - 1)
  obtain ⟨i1, i2⟩ := sTurnA_is m u ((m 0).toNat - 1)
  have hlt : (sTurnA m u ((m 0).toNat - 1)).1 < m 0 := by omega
  refine ⟨⟨hb.1, hlt⟩, ?_⟩
  generalize sTurnA m u ((m 0).toNat - 1) = z at *
  obtain ⟨k, hk⟩ := nat_of hb.1
  rw [hk] at hlt i2 ⊢
  rw [Int.toNat_natCast] at i2
  rw [sCo_turn h hu hlt, i2]
  exact i1
theorem lCmp_self (x : Int64) : lCmp x x = 0 := by
  have h1 : ¬ lCmp x x < 0 := fun q => by have := lCmp_lt.mp q; omega
  have h2 : ¬ 0 < lCmp x x := fun q => by have := lCmp_gt.mp q; omega
  omega
end MFS
theorem lCmp_bd (x y : Int64) : bd (lCmp x y) := bd_toInt _
