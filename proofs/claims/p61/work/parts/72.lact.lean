/-! THE LAW's ACTIONS: lay, turn, run, snapshots -/
section LAC
variable {w : PW} {Q : PO → PW → Prop} {m r0 : Row} {H : Nat → Row} {n : Nat} {k0 : Option Row} {sn : Nat} {sf : Nat → Int32} {x1 x2 x3 : Int}
def lyM (m : Row) (x : Int) : Row := aM m (sa181 m x).2
def lyH (H : Nat → Row) (n : Nat) (m : Row) (x : Int) : Nat → Row := aH H n m (sa181 m x).2
def lyN (n : Nat) (m : Row) (x : Int) : Nat := aN n (sa181 m x).2
/-- what lay answers -/
def lyR (m : Row) (x : Int) : Int := if (sSeek m x (-1)).1 = 1 then sPins (rLay m x.toNat (sSeek m x (-1)).2.2.2) x.toNat else if (sSeek m x (-1)).1 = 0 then -3 else -2
theorem ly_1 (h1 : 0 ≤ x1 ∧ x1 < m 1) (q : (sSeek m x1 (-1)).1 = 1) : sa181 m x1 = (rI (sPins (rLay m x1.toNat (sSeek m x1 (-1)).2.2.2) x1.toNat), some (rLay m x1.toNat (sSeek m x1 (-1)).2.2.2)) := by
  unfold sa181 aU aP aQ
  rw [if_pos h1, if_pos (by omega), if_pos q]
theorem ly_0 (h1 : 0 ≤ x1 ∧ x1 < m 1) (q : (sSeek m x1 (-1)).1 ≠ 1) : sa181 m x1 = (rI (if (sSeek m x1 (-1)).1 = 0 then -3 else -2), none) := by
  have ho := sSeek_out m x1 (-1)
  unfold sa181 aU aP aQ
  rw [if_pos h1]
  by_cases q2 : (sSeek m x1 (-1)).1 = -2
  · rw [if_neg (by omega), if_neg (by omega)]
  · rw [if_pos q2, if_neg q, if_pos (by omega)]
theorem q181 (hl : LW w m H n k0 sn sf) (hx1 : bd x1) (h1 : 0 ≤ x1 ∧ x1 < m 1) (h : ∀ w', LW w' (lyM m x1) (lyH H n m x1) (lyN n m x1) k0 sn sf → bd (lyR m x1) → Q (rI (lyR m x1)) w') : pC 181 [.ref 0, iv x1] w Q := by
  have ho := sSeek_out m x1 (-1)
  refine c181 hl.sh hl.br hl.hr hx1 (fun w2 hA => ?_)
  have hl2 := hl.ao hA
  have e : (sa181 m x1).1 = rI (lyR m x1) := by
    by_cases q : (sSeek m x1 (-1)).1 = 1
    · rw [ly_1 h1 q]
      unfold lyR
      rw [if_pos q]
    · rw [ly_0 h1 q]
      unfold lyR
      rw [if_neg q]
  rw [e]
  refine h w2 hl2 ?_
  unfold lyR
  split
  · rename_i q
    have hok := hl2.ok
    rw [ly_1 h1 q] at hok
    have := sPins_bd (m := rLay m x1.toNat (sSeek m x1 (-1)).2.2.2) hok x1.toNat
    exact ⟨by omega, by omega⟩
  · split
    · exact ⟨by decide, by decide⟩
    · exact ⟨by decide, by decide⟩
theorem q211 (hl : LW w m H n k0 sn sf) (hx1 : bd 0) (h : ∀ w', LW w' m H n (some m) sn sf → bd (sAll m) → Q (rI (sAll m)) w') : pC 211 [.ref 0, iv 0] w Q := by
  have ha := sAll_bd hl.ok
  refine c211 hl.sh hl.br hx1 (fun z => absurd (show (0 : Int) ≤ 0 ∧ (0 : Int) ≤ 1 by decide) z) (fun _ w2 s2 b2 g2 f2 => h w2 ⟨s2, ?_, ?_, ?_, fun r hr => ?_⟩ ⟨by omega, by omega⟩)
  · exact hl.br.cells (fun k hk => f2 _ (by show ¬ (143 + 13 * 0 ≤ 1 + k ∧ 1 + k < 156 + 13 * 0); omega) (by omega))
  · exact hl.hr.cells (fun c hc => f2 _ (by show ¬ (143 + 13 * 0 ≤ c ∧ c < 156 + 13 * 0); omega) (by omega))
  · exact (f2 pSC (by decide) (by decide)).trans hl.sc
  · cases hr
    exact ⟨(g2 0).trans (if_pos rfl), b2⟩
theorem q213 (hl : LW w m H n (some r0) sn sf) (hx1 : bd 0) (h : ∀ w', LW w' r0 H 0 (some r0) sn sf → bd (sAll r0) → Q (rI (sAll r0)) w') : pC 213 [.ref 0, iv 0] w Q := by
  obtain ⟨g1, g2⟩ := hl.2.2.2.2 r0 rfl
  have ha := sAll_bd g2.ok
  refine c213 (m := m) (m2 := r0) hl.sh hl.hr hx1 (fun _ _ => g2) (fun z => absurd (show (0 : Int) ≤ 0 ∧ (0 : Int) ≤ 1 by decide) z) (fun _ z => absurd (g1.symm.trans z) (by decide)) (fun _ _ w2 s2 f2 b2 h2 => h w2 ⟨s2, b2, h2 H, (f2 pSC (by decide) (by decide)).trans hl.sc, fun r hr => ?_⟩ ⟨by omega, by omega⟩)
  cases hr
  exact ⟨(gI_cell (f2 134 (by decide) (by decide)) 0).trans g1, g2.cells (fun k hk => f2 _ (by omega) (by omega))⟩
theorem q188 (hl : LW w m H n k0 sn sf) (hx1 : bd x1) (hx2 : bd x2) (h1 : 0 ≤ x1 ∧ x1 < m 1) (h2 : 0 ≤ x2 ∧ x2 < m 0) (h : ∀ w', LW w' (sTurnR m x1 x2) (hPush H n m) (hLen n) k0 sn sf → bd (sPins (sTurnR m x1 x2) x1.toNat) → Q (rI (sPins (sTurnR m x1 x2) x1.toNat)) w') : pC 188 [.ref 0, iv x1, iv x2] w Q := by
  have e : sa188 m x1 x2 = (rI (sPins (sTurnR m x1 x2) x1.toNat), some (sTurnR m x1 x2)) := by
    unfold sa188 aU aP
    rw [if_pos h1, if_pos h2]
  refine c188 hl.sh hl.br hl.hr hx1 hx2 (fun w2 hA => ?_)
  rw [e] at hA ⊢
  have hl2 := hl.ao hA
  have := sPins_bd (m := sTurnR m x1 x2) hl2.ok x1.toNat
  exact h w2 hl2 ⟨by omega, by omega⟩
theorem q201 (hl : LW w m H n k0 sn sf) (hx1 : bd x1) (hF : m 9 ≤ 12 * m 8) (h1 : 1 ≤ x1 ∧ x1 ≤ 200) (h2 : m 8 + x1 ≤ 100000) (h : ∀ w', LW w' (rRun m x1.toNat) (hPush H n m) (hLen n) k0 sn sf → bd (rRun m x1.toNat 9 - m 9) → Q (rI (rRun m x1.toNat 9 - m 9)) w') : pC 201 [.ref 0, iv x1] w Q := by
  have e : sa201 m x1 = (rI (rRun m x1.toNat 9 - m 9), some (rRun m x1.toNat)) := by
    unfold sa201 aP aQ
    rw [if_pos h1, if_pos h2]
  have hb := rRun_b hl.ok ⟨hF, by omega⟩ h1
  have h9 := hl.ok.pp
  have h8 := hl.ok.pt
  have h10 := hl.ok.pb
  refine c201 hl.sh hl.br hF hl.hr hx1 (fun w2 hA => ?_)
  rw [e] at hA ⊢
  exact h w2 (hl.ao hA) ⟨by omega, by omega⟩
end LAC
