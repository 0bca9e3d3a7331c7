/-! THE SPEC: a tooth that a layout leaves free; a tooth of a pitch that the tune lacks -/
theorem sFit_congr {m : Row} {u : Int} {ch ch' : Nat → Int} {d t : Nat} (h : ∀ k, k < d → ch' k = ch k) : sFit m u ch' d t = sFit m u ch d t := by
  unfold sFit
  rw [cnt_congr (P := sBad m u ch' d t) (Q := sBad m u ch d t) (fun k hk => by unfold sBad; rw [h k hk])]
theorem sRun_s (m : Row) (u but : Int) (n d tr : Nat) (ch : Nat → Int) : sRun m u but (n + 1) (d, tr, ch) = if ordR m u ≤ d then (1, (d, tr, ch)) else
    if sTry m u but (d, tr, ch) < (m 4).toNat then
      (if 4000 ≤ tr then (-2, (d, tr, ch)) else
        if sFit m u ch d (sTry m u but (d, tr, ch)) = true then sRun m u but n (d + 1, tr + 1, chSet (chSet ch d (sTry m u but (d, tr, ch) : Nat)) (d + 1) (-1))
        else sRun m u but n (d, tr + 1, chSet ch d (sTry m u but (d, tr, ch) : Nat)))
    else if d = 0 then (0, (d, tr, ch)) else sRun m u but n (d - 1, (tr, ch)) := rfl
theorem sNext_ban {m : Row} {p c : Int} {b t : Nat} (h : sNext m p (b : Nat) c t = true) : sNext m p (-1) c t = true := by
  unfold sNext at h ⊢
  rw [Bool.and_eq_true, Bool.and_eq_true, decide_eq_true_eq, decide_eq_true_eq] at h
  rw [decide_eq_true h.1, decide_eq_true h.2.1, decide_eq_true (by omega)]; rfl
theorem sNext_free {m : Row} {p c : Int} {b t : Nat} (h : sNext m p (-1) c t = true) (hb : t ≠ b) : sNext m p (b : Nat) c t = true := by
  unfold sNext at h ⊢
  rw [Bool.and_eq_true, Bool.and_eq_true, decide_eq_true_eq, decide_eq_true_eq] at h
  rw [decide_eq_true h.1, decide_eq_true h.2.1, decide_eq_true (by omega)]; rfl
/-- what comes next is the same, if it isn't the banned one -/
theorem next_eq {m : Row} {p c : Int} {b n t : Nat} (h : fnd (sNext m p (-1) c) n = t) (hb : t < n → t ≠ b) : fnd (sNext m p (b : Nat) c) n = t := by
  have hsp := fnd_spec (sNext m p (-1) c) n
  rw [h] at hsp
  refine fnd_eq (fun j hj => ?_) (fun ht => sNext_free (hsp.2.2 ht) (hb ht)) hsp.1
  cases q : sNext m p (b : Nat) c j with
  | false => rfl
  | true =>
    have := hsp.2.1 j hj
    rw [sNext_ban q] at this
    cases this
/-- after the banned one both go on alike -/
theorem next_sub {m : Row} {p c : Int} {b n : Nat} (h : fnd (sNext m p (-1) c) n = b) (hb : b < n) (t : Nat) : sNext m p (b : Nat) c t = sNext m p (-1) (b : Nat) t := by
  have hsp := fnd_spec (sNext m p (-1) c) n
  rw [h] at hsp
  have hcb := hsp.2.2 hb
  have hc : c < (b : Int) := by
    unfold sNext at hcb
    rw [Bool.and_eq_true, decide_eq_true_eq] at hcb
    exact hcb.1
  by_cases q1 : t < b
  · have h0 := hsp.2.1 t q1
    have hf : sNext m p (b : Nat) c t = false := by
      cases q : sNext m p (b : Nat) c t with
      | false => rfl
      | true => rw [sNext_ban q] at h0; cases h0
    rw [hf]
    unfold sNext
    rw [decide_eq_false (p := (b : Int) < (t : Int)) (by omega), Bool.false_and]
  · by_cases q2 : t = b
    · unfold sNext
      rw [decide_eq_false (p := (t : Int) ≠ (b : Int)) (by omega), decide_eq_false (p := (b : Int) < (t : Int)) (by omega), Bool.false_and, Bool.and_false, Bool.and_false]
    · unfold sNext
      rw [decide_eq_true (p := c < (t : Int)) (by omega), decide_eq_true (p := (b : Int) < (t : Int)) (by omega), decide_eq_true (p := (t : Int) ≠ (b : Int)) (by omega), decide_eq_true (p := (t : Int) ≠ -1) (by omega)]
theorem chSet_lt {ch : Nat → Int} {d k : Nat} {a b : Int} (hk : k < d) : chSet (chSet ch d a) (d + 1) b k = ch k := by
  unfold chSet
  rw [if_neg (by omega), if_neg (by omega)]
theorem chSet_at {ch : Nat → Int} {d : Nat} {a b : Int} : chSet (chSet ch d a) (d + 1) b d = a := by
  unfold chSet
  rw [if_neg (by omega), if_pos rfl]
theorem chSet_up {ch : Nat → Int} {d : Nat} {a b : Int} : chSet (chSet ch d a) (d + 1) b (d + 1) = b := if_pos rfl
theorem free_run (m : Row) (u : Int) (b : Nat) (hbT : b < (m 4).toNat) : ∀ n : Nat,
    (∀ (n2 d tr tr2 : Nat) (ch ch2 : Nat → Int), n ≤ n2 → tr2 ≤ tr → (∀ k, k < d → ch2 k = ch k ∧ ch k ≠ (b : Nat)) → ch2 d = ch d → (sRun m u (-1) n (d, tr, ch)).1 = 1 → (∀ k, k < ordR m u → (sRun m u (-1) n (d, tr, ch)).2.2.2 k ≠ (b : Nat)) → (sRun m u (b : Nat) n2 (d, tr2, ch2)).1 = 1) ∧
    (∀ (n2 e d tr tr2 : Nat) (ch ch2 : Nat → Int), n ≤ n2 → tr2 ≤ tr → e ≤ d → e < ordR m u → (∀ k, k < e → ch2 k = ch k ∧ ch k ≠ (b : Nat)) → ch e = (b : Nat) → (∀ t : Nat, sNext m (rN m (ordN m u e) 2) (b : Nat) (ch2 e) t = sNext m (rN m (ordN m u e) 2) (-1) (b : Nat) t) → (sRun m u (-1) n (d, tr, ch)).1 = 1 → (∀ k, k < ordR m u → (sRun m u (-1) n (d, tr, ch)).2.2.2 k ≠ (b : Nat)) → (sRun m u (b : Nat) n2 (e, tr2, ch2)).1 = 1) := by
  intro n
  induction n with
  | zero =>
    exact ⟨fun _ _ _ _ _ _ _ _ _ _ h => absurd (show (-9 : Int) = 1 from h) (by decide), fun _ _ _ _ _ _ _ _ _ _ _ _ _ _ h => absurd (show (-9 : Int) = 1 from h) (by decide)⟩
  | succ n ih =>
    obtain ⟨ihA, ihB⟩ := ih
    refine ⟨fun n2 d tr tr2 ch ch2 hn htr hpre hd hsuc hav => ?_, fun n2 e d tr tr2 ch ch2 hn htr hed heR hpre hce hE hsuc hav => ?_⟩
    · obtain ⟨n3, rfl⟩ : ∃ n3, n2 = n3 + 1 := ⟨n2 - 1, by omega⟩
      rw [sRun_s] at hsuc hav
      by_cases q1 : ordR m u ≤ d
      · rw [sRun_s, if_pos q1]
      · rw [if_neg q1] at hsuc hav
        obtain ⟨t, ht⟩ : ∃ t : Nat, sTry m u (-1) (d, tr, ch) = t := ⟨_, rfl⟩
        have ht2 : fnd (sNext m (rN m (ordN m u d) 2) (-1) (ch d)) (m 4).toNat = t := ht
        rw [ht] at hsuc hav
        by_cases q2 : t < (m 4).toNat
        · rw [if_pos q2] at hsuc hav
          by_cases q3 : 4000 ≤ tr
          · rw [if_pos q3] at hsuc
            exact absurd (show (-2 : Int) = 1 from hsuc) (by decide)
          · rw [if_neg q3] at hsuc hav
            by_cases q4 : t = b
            · subst q4
              have hE : ∀ t2 : Nat, sNext m (rN m (ordN m u d) 2) (t : Nat) (ch2 d) t2 = sNext m (rN m (ordN m u d) 2) (-1) (t : Nat) t2 := fun t2 => by rw [hd]; exact next_sub ht2 q2 t2
              by_cases q5 : sFit m u ch d t = true
              · rw [if_pos q5] at hsuc hav
                exact ihB (n3 + 1) d (d + 1) (tr + 1) tr2 (chSet (chSet ch d (t : Nat)) (d + 1) (-1)) ch2 (by omega) (by omega) (by omega) (by omega) (fun k hk => by rw [chSet_lt hk]; exact hpre k hk) chSet_at hE hsuc hav
              · rw [if_neg q5] at hsuc hav
                exact ihB (n3 + 1) d d (tr + 1) tr2 (chSet ch d (t : Nat)) ch2 (by omega) (by omega) (Nat.le_refl _) (by omega) (fun k hk => by rw [show chSet ch d (t : Nat) k = ch k from if_neg (by omega)]; exact hpre k hk) (if_pos rfl) hE hsuc hav
            · have hs2 : sTry m u (b : Nat) (d, tr2, ch2) = t := by
                show fnd (sNext m (rN m (ordN m u d) 2) (b : Nat) (ch2 d)) (m 4).toNat = t
                rw [hd]
                exact next_eq ht2 (fun _ => q4)
              rw [sRun_s, if_neg q1, hs2, if_pos q2, if_neg (by omega), sFit_congr (ch := ch) (fun k hk => (hpre k hk).1)]
              by_cases q5 : sFit m u ch d t = true
              · rw [if_pos q5] at hsuc hav ⊢
                refine ihA n3 (d + 1) (tr + 1) (tr2 + 1) (chSet (chSet ch d (t : Nat)) (d + 1) (-1)) (chSet (chSet ch2 d (t : Nat)) (d + 1) (-1)) (by omega) (by omega) (fun k hk => ?_) (by rw [chSet_up, chSet_up]) hsuc hav
                by_cases e : k = d
                · rw [e, chSet_at, chSet_at]
                  exact ⟨rfl, by omega⟩
                · rw [chSet_lt (by omega), chSet_lt (by omega)]
                  exact hpre k (by omega)
              · rw [if_neg q5] at hsuc hav ⊢
                refine ihA n3 d (tr + 1) (tr2 + 1) (chSet ch d (t : Nat)) (chSet ch2 d (t : Nat)) (by omega) (by omega) (fun k hk => ?_) ?_ hsuc hav
                · rw [show chSet ch2 d (t : Nat) k = ch2 k from if_neg (by omega), show chSet ch d (t : Nat) k = ch k from if_neg (by omega)]
                  exact hpre k hk
                · rw [show chSet ch2 d (t : Nat) d = (t : Nat) from if_pos rfl, show chSet ch d (t : Nat) d = (t : Nat) from if_pos rfl]
        · rw [if_neg q2] at hsuc hav
          have hs2 : sTry m u (b : Nat) (d, tr2, ch2) = t := by
            show fnd (sNext m (rN m (ordN m u d) 2) (b : Nat) (ch2 d)) (m 4).toNat = t
            rw [hd]
            exact next_eq ht2 (fun z => absurd z q2)
          rw [sRun_s, if_neg q1, hs2, if_neg q2]
          by_cases q6 : d = 0
          · rw [if_pos q6] at hsuc
            exact absurd (show (0 : Int) = 1 from hsuc) (by decide)
          · rw [if_neg q6] at hsuc hav ⊢
            exact ihA n3 (d - 1) tr tr2 ch ch2 (by omega) htr (fun k hk => hpre k (by omega)) (hpre (d - 1) (by omega)).1 hsuc hav
    · rw [sRun_s] at hsuc hav
      by_cases q1 : ordR m u ≤ d
      · rw [if_pos q1] at hav
        exact absurd hce (hav e heR)
      · rw [if_neg q1] at hsuc hav
        obtain ⟨t, ht⟩ : ∃ t : Nat, sTry m u (-1) (d, tr, ch) = t := ⟨_, rfl⟩
        have ht2 : fnd (sNext m (rN m (ordN m u d) 2) (-1) (ch d)) (m 4).toNat = t := ht
        rw [ht] at hsuc hav
        by_cases qe : d = e
        · subst qe
          obtain ⟨n3, rfl⟩ : ∃ n3, n2 = n3 + 1 := ⟨n2 - 1, by omega⟩
          have hs2 : sTry m u (b : Nat) (d, tr2, ch2) = t := by
            show fnd (sNext m (rN m (ordN m u d) 2) (b : Nat) (ch2 d)) (m 4).toNat = t
            rw [fnd_congr (fun i _ => hE i), ← hce]
            exact ht2
          rw [sRun_s, if_neg q1, hs2]
          by_cases q2 : t < (m 4).toNat
          · rw [if_pos q2] at hsuc hav ⊢
            have htb : t ≠ b := by
              have hh := (fnd_spec (sNext m (rN m (ordN m u d) 2) (-1) (ch d)) (m 4).toNat).2.2 (by rw [ht2]; exact q2)
              rw [ht2, hce] at hh
              unfold sNext at hh
              rw [Bool.and_eq_true, decide_eq_true_eq] at hh
              have := hh.1
              omega
            by_cases q3 : 4000 ≤ tr
            · rw [if_pos q3] at hsuc
              exact absurd (show (-2 : Int) = 1 from hsuc) (by decide)
            · rw [if_neg q3] at hsuc hav
              rw [if_neg (by omega), sFit_congr (ch := ch) (fun k hk => (hpre k hk).1)]
              by_cases q5 : sFit m u ch d t = true
              · rw [if_pos q5] at hsuc hav ⊢
                refine ihA n3 (d + 1) (tr + 1) (tr2 + 1) (chSet (chSet ch d (t : Nat)) (d + 1) (-1)) (chSet (chSet ch2 d (t : Nat)) (d + 1) (-1)) (by omega) (by omega) (fun k hk => ?_) (by rw [chSet_up, chSet_up]) hsuc hav
                by_cases e : k = d
                · rw [e, chSet_at, chSet_at]
                  exact ⟨rfl, by omega⟩
                · rw [chSet_lt (by omega), chSet_lt (by omega)]
                  exact hpre k (by omega)
              · rw [if_neg q5] at hsuc hav ⊢
                refine ihA n3 d (tr + 1) (tr2 + 1) (chSet ch d (t : Nat)) (chSet ch2 d (t : Nat)) (by omega) (by omega) (fun k hk => ?_) ?_ hsuc hav
                · rw [show chSet ch2 d (t : Nat) k = ch2 k from if_neg (by omega), show chSet ch d (t : Nat) k = ch k from if_neg (by omega)]
                  exact hpre k hk
                · rw [show chSet ch2 d (t : Nat) d = (t : Nat) from if_pos rfl, show chSet ch d (t : Nat) d = (t : Nat) from if_pos rfl]
          · rw [if_neg q2] at hsuc hav ⊢
            by_cases q6 : d = 0
            · rw [if_pos q6] at hsuc
              exact absurd (show (0 : Int) = 1 from hsuc) (by decide)
            · rw [if_neg q6] at hsuc hav ⊢
              exact ihA n3 (d - 1) tr tr2 ch ch2 (by omega) htr (fun k hk => hpre k (by omega)) (hpre (d - 1) (by omega)).1 hsuc hav
        · by_cases q2 : t < (m 4).toNat
          · rw [if_pos q2] at hsuc hav
            by_cases q3 : 4000 ≤ tr
            · rw [if_pos q3] at hsuc
              exact absurd (show (-2 : Int) = 1 from hsuc) (by decide)
            · rw [if_neg q3] at hsuc hav
              by_cases q5 : sFit m u ch d t = true
              · rw [if_pos q5] at hsuc hav
                exact ihB n2 e (d + 1) (tr + 1) tr2 (chSet (chSet ch d (t : Nat)) (d + 1) (-1)) ch2 (by omega) (by omega) (by omega) heR (fun k hk => by rw [chSet_lt (by omega)]; exact hpre k hk) (by rw [chSet_lt (by omega)]; exact hce) hE hsuc hav
              · rw [if_neg q5] at hsuc hav
                exact ihB n2 e d (tr + 1) tr2 (chSet ch d (t : Nat)) ch2 (by omega) (by omega) hed heR (fun k hk => by rw [show chSet ch d (t : Nat) k = ch k from if_neg (by omega)]; exact hpre k hk) ((if_neg (by omega)).trans hce) hE hsuc hav
          · rw [if_neg q2] at hsuc hav
            by_cases q6 : d = 0
            · rw [if_pos q6] at hsuc
              exact absurd (show (0 : Int) = 1 from hsuc) (by decide)
            · rw [if_neg q6] at hsuc hav
              exact ihB n2 e (d - 1) tr tr2 ch ch2 (by omega) htr (by omega) heR hpre hce hE hsuc hav
/-- without a tooth that the layout leaves free a layout is found, too -/
theorem need_free {m : Row} {u : Int} {b : Nat} (hb : b < (m 4).toNat) (hs : (sSeek m u (-1)).1 = 1) (hf : ∀ k, k < ordR m u → (sSeek m u (-1)).2.2.2 k ≠ (b : Nat)) : (sSeek m u (b : Nat)).1 = 1 :=
  (free_run m u b hb 12000).1 12000 0 0 0 (fun _ => -1) (fun _ => -1) (Nat.le_refl _) (Nat.le_refl _) (fun _ hk => absurd hk (Nat.not_lt_zero _)) rfl hs hf
section LACK
variable {m : Row} {p u : Int}
theorem lk_rN (h12 : m 4 < 12) (i c : Nat) : rN (rTooth m p 1) i c = rN m i c := rTooth_hi h12 (by omega)
theorem lk_rank (h12 : m 4 < 12) : rRank (rTooth m p 1) = rRank m := by
  funext i
  unfold rRank
  rw [lk_rN h12, lk_rN h12]
theorem lk_insP (h12 : m 4 < 12) (ord : Nat → Nat) (c : Nat) : ∀ n, insP (rTooth m p 1) ord c n = insP m ord c n := by
  intro n
  induction n with
  | zero => rfl
  | succ n ih =>
    unfold insP
    rw [lk_rank h12, ih]
theorem lk_insO (h12 : m 4 < 12) (ord : Nat → Nat) (c n : Nat) : insO (rTooth m p 1) ord c n = insO m ord c n := by
  funext i
  unfold insO
  rw [lk_insP h12]
theorem lk_sOrd (h12 : m 4 < 12) : ∀ n, sOrd (rTooth m p 1) u n = sOrd m u n := by
  intro n
  induction n with
  | zero => rfl
  | succ n ih =>
    unfold sOrd
    rw [lk_rN h12, ih, lk_insO h12]
theorem lk_ordN (h12 : m 4 < 12) : ordN (rTooth m p 1) u = ordN m u := by
  funext i
  unfold ordN
  rw [rTooth_lo (by decide) (by decide), lk_sOrd h12]
theorem lk_ordR (h12 : m 4 < 12) : ordR (rTooth m p 1) u = ordR m u := by
  unfold ordR
  rw [rTooth_lo (by decide) (by decide), lk_sOrd h12]
theorem lk_fit (hR : RowOK m) (h12 : m 4 < 12) {ch : Nat → Int} {d t : Nat} (ht : (t : Int) < m 4) : sFit (rTooth m p 1) u ch d t = sFit m u ch d t := by
  have h0 := hR.s
  have e0 : rTooth m p 1 0 = m 0 := rTooth_lo (by decide) (by decide)
  have e1 : rTooth m p 1 1 = m 1 := rTooth_lo (by decide) (by decide)
  have e2 : rTooth m p 1 2 = m 2 := rTooth_lo (by decide) (by decide)
  have e3 : rTooth m p 1 3 = m 3 := rTooth_lo (by decide) (by decide)
  have en : sNeed (rTooth m p 1) t = sNeed m t := by unfold sNeed; rw [rTooth_T ht (by decide), e3]
  have es : sStp (rTooth m p 1) u = sStp m u := by funext k; unfold sStp; rw [lk_ordN h12, lk_rN h12]
  have eb : sBad (rTooth m p 1) u ch d t = sBad m u ch d t := by funext k; unfold sBad; rw [e0, e1, e2, en, es]
  have ex : ∀ x s, sStr (rTooth m p 1) u x s = sStr m u x s := fun x s => by
    unfold sStr
    rw [e0, e1, e2, cnt_congr (P := fun r => rTr (rTooth m p 1) x.toNat r && nearI (m 0) s r (m 2)) (Q := fun r => rTr m x.toNat r && nearI (m 0) s r (m 2)) (fun r hr => by rw [rTr_tooth hR h12 (by omega)])]
  unfold sFit
  rw [en, e0, e1, es, eb, ex, ex]
theorem lk_try (hR : RowOK m) (h12 : m 4 < 12) (hz : sUses m u p = 0) {d tr : Nat} {ch : Nat → Int} (hd : d < ordR m u) : (sTry (rTooth m p 1) u (-1) (d, tr, ch) < ((rTooth m p 1) 4).toNat ↔ sTry m u (-1) (d, tr, ch) < (m 4).toNat) ∧ (sTry m u (-1) (d, tr, ch) < (m 4).toNat → sTry (rTooth m p 1) u (-1) (d, tr, ch) = sTry m u (-1) (d, tr, ch)) := by
  have h4 := hR.t
  obtain ⟨o1, o2⟩ := ordN_ok hR hd
  have hne : rN m (ordN m u d) 2 ≠ p := fun z => by
    have : 0 < sUses m u p := cnt_pos (i := ordN m u d) (by omega) (decide_eq_true ⟨o2, z⟩)
    omega
  have e4 : ((rTooth m p 1) 4).toNat = (m 4).toNat + 1 := by rw [rTooth_4]; omega
  have ea : sTry (rTooth m p 1) u (-1) (d, tr, ch) = fnd (sNext (rTooth m p 1) (rN m (ordN m u d) 2) (-1) (ch d)) ((m 4).toNat + 1) := by
    show fnd (sNext (rTooth m p 1) (rN (rTooth m p 1) (ordN (rTooth m p 1) u d) 2) (-1) (ch d)) ((rTooth m p 1) 4).toNat = _
    rw [e4, lk_ordN h12, lk_rN h12]
  have eb : sTry m u (-1) (d, tr, ch) = fnd (sNext m (rN m (ordN m u d) 2) (-1) (ch d)) (m 4).toNat := rfl
  have en : ∀ t, t < (m 4).toNat → sNext (rTooth m p 1) (rN m (ordN m u d) 2) (-1) (ch d) t = sNext m (rN m (ordN m u d) 2) (-1) (ch d) t := fun t ht => by
    unfold sNext
    rw [rTooth_T (by omega) (by decide)]
  have eT : sNext (rTooth m p 1) (rN m (ordN m u d) 2) (-1) (ch d) (m 4).toNat = false := by
    unfold sNext
    rw [rTooth_new.1, decide_eq_false (p := p = rN m (ordN m u d) 2) (fun z => hne z.symm), Bool.false_and, Bool.and_false]
  rw [ea, eb, e4]
  have hsp := fnd_spec (sNext m (rN m (ordN m u d) 2) (-1) (ch d)) (m 4).toNat
  obtain ⟨f, hf⟩ : ∃ f, f = fnd (sNext m (rN m (ordN m u d) 2) (-1) (ch d)) (m 4).toNat := ⟨_, rfl⟩
  rw [← hf] at hsp ⊢
  by_cases q : f < (m 4).toNat
  · have := fnd_eq (P := sNext (rTooth m p 1) (rN m (ordN m u d) 2) (-1) (ch d)) (n := (m 4).toNat + 1) (i := f) (fun j hj => by rw [en j (by omega)]; exact hsp.2.1 j hj) (fun _ => by rw [en f q]; exact hsp.2.2 q) (by omega)
    rw [this]
    exact ⟨⟨fun _ => q, fun _ => by omega⟩, fun _ => rfl⟩
  · have := fnd_eq (P := sNext (rTooth m p 1) (rN m (ordN m u d) 2) (-1) (ch d)) (n := (m 4).toNat + 1) (i := (m 4).toNat + 1) (fun j hj => by
      by_cases e : j = (m 4).toNat
      · rw [e]; exact eT
      · rw [en j (by omega)]; exact hsp.2.1 j (by omega)) (fun z => absurd z (by omega)) (Nat.le_refl _)
    rw [this]
    exact ⟨⟨fun z => absurd z (by omega), fun z => absurd z q⟩, fun z => absurd z q⟩
theorem lk_run (hR : RowOK m) (h12 : m 4 < 12) (hz : sUses m u p = 0) : ∀ (n d tr : Nat) (ch : Nat → Int), (sRun (rTooth m p 1) u (-1) n (d, tr, ch)).1 = (sRun m u (-1) n (d, tr, ch)).1 := by
  have h4 := hR.t
  intro n
  induction n with
  | zero => intro d tr ch; rfl
  | succ n ih =>
    intro d tr ch
    rw [sRun_s, sRun_s, lk_ordR h12]
    by_cases q1 : ordR m u ≤ d
    · rw [if_pos q1, if_pos q1]
    · rw [if_neg q1, if_neg q1]
      obtain ⟨h1, h2⟩ := lk_try (tr := tr) (ch := ch) hR h12 hz (show d < ordR m u by omega)
      by_cases q2 : sTry m u (-1) (d, tr, ch) < (m 4).toNat
      · rw [if_pos q2, if_pos (h1.mpr q2), h2 q2]
        by_cases q3 : 4000 ≤ tr
        · rw [if_pos q3, if_pos q3]
        · rw [if_neg q3, if_neg q3, lk_fit hR h12 (by omega)]
          by_cases q4 : sFit m u ch d (sTry m u (-1) (d, tr, ch)) = true
          · rw [if_pos q4, if_pos q4]
            exact ih _ _ _
          · rw [if_neg q4, if_neg q4]
            exact ih _ _ _
      · rw [if_neg q2, if_neg (fun z => q2 (h1.mp z))]
        by_cases q6 : d = 0
        · rw [if_pos q6, if_pos q6]
        · rw [if_neg q6, if_neg q6]
          exact ih _ _ _
/-- a tooth of a pitch that the tune lacks changes nothing -/
theorem want_lack (hR : RowOK m) (h12 : m 4 < 12) (hz : sUses m u p = 0) : (sSeek (rTooth m p 1) u (-1)).1 = (sSeek m u (-1)).1 := lk_run hR h12 hz 12000 0 0 _
end LACK
/-- the questions `needed` and `wanted`, asked without looking first -/
theorem sNeed_eq {m : Row} {u : Int} (hR : RowOK m) (hs : (sSeek m u (-1)).1 = 1) (hch : ∀ k, k < ordR m u → 0 ≤ (sSeek m u (-1)).2.2.2 k ∧ (sSeek m u (-1)).2.2.2 k < m 4) : fnd (sNeedP m u) (m 4).toNat = fnd (fun t => decide ((sSeek m u (t : Nat)).1 ≠ 1)) (m 4).toNat := by
  have h4 := hR.t
  refine fnd_congr (fun t ht => ?_)
  unfold sNeedP
  cases q : tI (usedN (sSeek m u (-1)).2.2.2 (ordR m u)) t with
  | true => exact Bool.true_and _
  | false =>
    rw [Bool.false_and]
    refine (decide_eq_false (fun z => z (need_free ht hs (fun k hk e => ?_)))).symm
    have hb := (usedN_bits (ch := (sSeek m u (-1)).2.2.2) (n := ordR m u) (fun k hk => ⟨(hch k hk).1, by have := (hch k hk).2; omega⟩)).2 t (by omega)
    rw [q] at hb
    have := of_decide_eq_false hb.symm
    exact this (cnt_pos (i := k) hk (decide_eq_true e))
theorem sWant_eq {m : Row} {u : Int} (hR : RowOK m) (h12 : m 4 < 12) : fnd (sWantP m u) 24 = fnd (fun p => decide ((sSeek (rTooth m (p : Nat) 1) u (-1)).1 = 1)) 24 := by
  refine fnd_congr (fun p _ => ?_)
  unfold sWantP
  by_cases q : 0 < sUses m u p
  · rw [if_pos q]
  · rw [if_neg q, want_lack hR h12 (by omega)]
