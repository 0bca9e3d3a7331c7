/-! THE LAW's QUESTIONS: what each answers between two calls -/
section LQS
variable {w : PW} {Q : PO → PW → Prop} {m : Row} {H : Nat → Row} {n : Nat} {k0 : Option Row} {sn : Nat} {sf : Nat → Int32} {x1 x2 x3 : Int}
/-- what follows an answer: a number -/
abbrev qh (m : Row) (H : Nat → Row) (n : Nat) (k0 : Option Row) (sn : Nat) (sf : Nat → Int32) (Q : PO → PW → Prop) (z : Int) : Prop := ∀ w', LW w' m H n k0 sn sf → bd z → Q (rI z) w'
theorem sSize_bd (h : RowOK m) (hx : 0 ≤ x1 ∧ x1 ≤ 12) : bd (sSize m n x1) := by
  have h0 := h.s
  have h1 := h.u
  have h2 := h.g
  have h3 := h.v
  have h4 := h.t
  have h5 := h.n
  have h6 := h.pu
  have h7 := h.ps
  have h8 := h.pt
  have h9 := h.pp
  have h10 := h.pb
  have ha := sAll_bd h
  have hc := sCo_bd m
  obtain ⟨k, rfl⟩ := nat_of hx.1
  have hk : k ≤ 12 := by omega
  unfold sSize
  match k, hk with
  | 0, _ => exact ⟨by show _ ≤ m 0; omega, by show m 0 < _; omega⟩
  | 1, _ => exact ⟨by show _ ≤ m 1; omega, by show m 1 < _; omega⟩
  | 2, _ => exact ⟨by show _ ≤ m 2; omega, by show m 2 < _; omega⟩
  | 3, _ => exact ⟨by show _ ≤ m 3; omega, by show m 3 < _; omega⟩
  | 4, _ => exact ⟨by show _ ≤ m 4; omega, by show m 4 < _; omega⟩
  | 5, _ => exact ⟨by show _ ≤ m 5; omega, by show m 5 < _; omega⟩
  | 6, _ => exact ⟨by show _ ≤ sAll m; omega, by show sAll m < _; omega⟩
  | 7, _ => exact ⟨by show _ ≤ m 6; omega, by show m 6 < _; omega⟩
  | 8, _ => exact ⟨by show _ ≤ m 7; omega, by show m 7 < _; omega⟩
  | 9, _ => exact ⟨by show _ ≤ m 8; omega, by show m 8 < _; omega⟩
  | 10, _ => exact ⟨by show _ ≤ m 9; omega, by show m 9 < _; omega⟩
  | 11, _ => exact ⟨by show _ ≤ m 10; omega, by show m 10 < _; omega⟩
  | 12, _ => exact ⟨by show _ ≤ ((sCo m : Nat) : Int); omega, by show ((sCo m : Nat) : Int) < _; omega⟩
theorem q65 (hl : LW w m H n k0 sn sf) (hx : bd x1) (hr : 0 ≤ x1 ∧ x1 ≤ 12) (h : qh m H n k0 sn sf Q (sSize m n x1)) : pC 65 [.ref 0, iv x1] w Q := by
  refine c65 hl.sh hl.br hl.hr.1 hx ?_
  unfold sp65 spR
  rw [if_pos (by omega)]
  exact h w hl (sSize_bd hl.ok hr)
theorem q65_0 (hl : LW w m H n k0 sn sf) (hx : bd 0) (h : qh m H n k0 sn sf Q (m 0)) : pC 65 [.ref 0, iv 0] w Q := q65 hl hx (by decide) h
theorem q65_1 (hl : LW w m H n k0 sn sf) (hx : bd 1) (h : qh m H n k0 sn sf Q (m 1)) : pC 65 [.ref 0, iv 1] w Q := q65 hl hx (by decide) h
theorem q65_2 (hl : LW w m H n k0 sn sf) (hx : bd 2) (h : qh m H n k0 sn sf Q (m 2)) : pC 65 [.ref 0, iv 2] w Q := q65 hl hx (by decide) h
theorem q65_3 (hl : LW w m H n k0 sn sf) (hx : bd 3) (h : qh m H n k0 sn sf Q (m 3)) : pC 65 [.ref 0, iv 3] w Q := q65 hl hx (by decide) h
theorem q65_4 (hl : LW w m H n k0 sn sf) (hx : bd 4) (h : qh m H n k0 sn sf Q (m 4)) : pC 65 [.ref 0, iv 4] w Q := q65 hl hx (by decide) h
theorem q65_5 (hl : LW w m H n k0 sn sf) (hx : bd 5) (h : qh m H n k0 sn sf Q (m 5)) : pC 65 [.ref 0, iv 5] w Q := q65 hl hx (by decide) h
theorem q65_6 (hl : LW w m H n k0 sn sf) (hx : bd 6) (h : qh m H n k0 sn sf Q (sAll m)) : pC 65 [.ref 0, iv 6] w Q := q65 hl hx (by decide) h
theorem q65_9 (hl : LW w m H n k0 sn sf) (hx : bd 9) (h : qh m H n k0 sn sf Q (m 8)) : pC 65 [.ref 0, iv 9] w Q := q65 hl hx (by decide) h
theorem q65_10 (hl : LW w m H n k0 sn sf) (hx : bd 10) (h : qh m H n k0 sn sf Q (m 9)) : pC 65 [.ref 0, iv 10] w Q := q65 hl hx (by decide) h
theorem q65_11 (hl : LW w m H n k0 sn sf) (hx : bd 11) (h : qh m H n k0 sn sf Q (m 10)) : pC 65 [.ref 0, iv 11] w Q := q65 hl hx (by decide) h
theorem q65_12 (hl : LW w m H n k0 sn sf) (hx : bd 12) (h : qh m H n k0 sn sf Q ((sCo m : Nat))) : pC 65 [.ref 0, iv 12] w Q := q65 hl hx (by decide) h
theorem sRest_bd (h : RowOK m) {t : Nat} (ht : (t : Int) < m 4) : bd (sRest m t) := by
  have h1 := h.T ht
  have h2 := sNeed_bd h ht
  have h8 := h.pt
  unfold sRest
  split
  · exact ⟨by decide, by decide⟩
  · constructor <;> omega
theorem q69 (hl : LW w m H n k0 sn sf) (hx1 : bd x1) (hx2 : bd x2) (ht : 0 ≤ x1 ∧ x1 < m 4) (hr : 0 ≤ x2 ∧ x2 ≤ 7) (h : qh m H n k0 sn sf Q (sTooA m x1.toNat x2)) : pC 69 [.ref 0, iv x1, iv x2] w Q := by
  have ht2 : ((x1.toNat : Nat) : Int) < m 4 := by omega
  have h1 := hl.ok.T ht2
  have h2 := sNeed_bd hl.ok ht2
  have h3 := sTooth_bd hl.ok x1.toNat
  have h9 := hl.ok.pp
  have h8 := hl.ok.pt
  refine c69 hl.sh hl.br hx1 hx2 ?_
  unfold sp69 spT spR
  rw [if_pos ht, if_pos hr]
  refine h w hl ?_
  unfold sTooA
  split
  · exact ⟨by omega, by omega⟩
  · split
    · exact ⟨by omega, by omega⟩
    · split
      · exact ⟨by omega, by omega⟩
      · split
        · exact ⟨by omega, by omega⟩
        · split
          · exact ⟨by omega, by omega⟩
          · split
            · exact ⟨by omega, by omega⟩
            · split
              · exact ⟨by omega, by omega⟩
              · exact sRest_bd hl.ok ht2
theorem q69_0 (hl : LW w m H n k0 sn sf) (hx1 : bd x1) (hx2 : bd 0) (ht : 0 ≤ x1 ∧ x1 < m 4) (h : qh m H n k0 sn sf Q (rT m x1.toNat 0)) : pC 69 [.ref 0, iv x1, iv 0] w Q := q69 hl hx1 hx2 ht (by decide) h
theorem q69_2 (hl : LW w m H n k0 sn sf) (hx1 : bd x1) (hx2 : bd 2) (ht : 0 ≤ x1 ∧ x1 < m 4) (h : qh m H n k0 sn sf Q (sNeed m x1.toNat)) : pC 69 [.ref 0, iv x1, iv 2] w Q := q69 hl hx1 hx2 ht (by decide) h
theorem q69_3 (hl : LW w m H n k0 sn sf) (hx1 : bd x1) (hx2 : bd 3) (ht : 0 ≤ x1 ∧ x1 < m 4) (h : qh m H n k0 sn sf Q (sTooth m x1.toNat)) : pC 69 [.ref 0, iv x1, iv 3] w Q := q69 hl hx1 hx2 ht (by decide) h
theorem q74 (hl : LW w m H n k0 sn sf) (hx1 : bd x1) (hx2 : bd x2) (hk : 0 ≤ x1 ∧ x1 < m 5) (hr : 0 ≤ x2 ∧ x2 ≤ 3) (h : qh m H n k0 sn sf Q (sNotA m x1.toNat x2)) : pC 74 [.ref 0, iv x1, iv x2] w Q := by
  have hk2 : ((x1.toNat : Nat) : Int) < m 5 := by omega
  have h1 := hl.ok.N hk2
  have h2 := sPlay_bd hl.ok x1.toNat
  have h3 := hl.ok.s
  have h4 := hl.ok.u
  have h5 := hl.ok.t
  refine c74 hl.sh hl.br hx1 hx2 ?_
  unfold sp74 spN spR
  rw [if_pos hk, if_pos hr]
  refine h w hl ?_
  unfold sNotA
  split
  · exact ⟨by omega, by omega⟩
  · have hc : x2.toNat = 0 ∨ x2.toNat = 1 ∨ x2.toNat = 2 := by omega
    rcases hc with q | q | q <;> rw [q] <;> exact ⟨by omega, by omega⟩
theorem q74_0 (hl : LW w m H n k0 sn sf) (hx1 : bd x1) (hx2 : bd 0) (hk : 0 ≤ x1 ∧ x1 < m 5) (h : qh m H n k0 sn sf Q (rN m x1.toNat 0)) : pC 74 [.ref 0, iv x1, iv 0] w Q := q74 hl hx1 hx2 hk (by decide) h
theorem q74_1 (hl : LW w m H n k0 sn sf) (hx1 : bd x1) (hx2 : bd 1) (hk : 0 ≤ x1 ∧ x1 < m 5) (h : qh m H n k0 sn sf Q (rN m x1.toNat 1)) : pC 74 [.ref 0, iv x1, iv 1] w Q := q74 hl hx1 hx2 hk (by decide) h
theorem q74_2 (hl : LW w m H n k0 sn sf) (hx1 : bd x1) (hx2 : bd 2) (hk : 0 ≤ x1 ∧ x1 < m 5) (h : qh m H n k0 sn sf Q (rN m x1.toNat 2)) : pC 74 [.ref 0, iv x1, iv 2] w Q := q74 hl hx1 hx2 hk (by decide) h
theorem q74_3 (hl : LW w m H n k0 sn sf) (hx1 : bd x1) (hx2 : bd 3) (hk : 0 ≤ x1 ∧ x1 < m 5) (h : qh m H n k0 sn sf Q (sPlay m x1.toNat)) : pC 74 [.ref 0, iv x1, iv 3] w Q := q74 hl hx1 hx2 hk (by decide) h
theorem q79 (hl : LW w m H n k0 sn sf) (hx1 : bd x1) (hx2 : bd x2) (hx3 : bd x3) (h1 : 0 ≤ x1 ∧ x1 < m 1) (h2 : 0 ≤ x2 ∧ x2 < m 0) (h3 : 0 ≤ x3 ∧ x3 < m 4) (h : ∀ w', LW w' m H n k0 sn sf → Q (.inl (some (iv (if rPin m x1.toNat x2.toNat x3.toNat = true then 1 else 0)))) w') : pC 79 [.ref 0, iv x1, iv x2, iv x3] w Q := by
  refine c79 hl.sh hl.br hx1 hx2 hx3 ?_
  unfold sp79 spU spS spT
  rw [if_pos h1, if_pos h2, if_pos h3]
  exact h w hl
theorem q85 (hl : LW w m H n k0 sn sf) (hx1 : bd x1) (hx2 : bd x2) (h1 : 0 ≤ x1 ∧ x1 < m 1) (h2 : 0 ≤ x2 ∧ x2 < m 0) (h : qh m H n k0 sn sf Q (m (251 + 64 * x1.toNat + x2.toNat))) : pC 85 [.ref 0, iv x1, iv x2] w Q := by
  refine c85 hl.sh hl.br hx1 hx2 ?_
  unfold sp85 spU spS
  rw [if_pos h1, if_pos h2]
  exact h w hl (hl.ok.P (u := x1.toNat) (s := x2.toNat) (by omega) (by omega)).1
theorem q88 (hl : LW w m H n k0 sn sf) (hx1 : bd x1) (h1 : 0 ≤ x1 ∧ x1 < m 1) (h : qh m H n k0 sn sf Q (sFullA m x1.toNat (m 0).toNat).1) : pC 88 [.ref 0, iv x1] w Q := by
  have h0 := hl.ok.s
  have hb := sFullA_bd m x1.toNat (m 0).toNat
  refine c88 hl.sh hl.br hx1 ?_
  unfold sp88 spU
  rw [if_pos h1]
  exact h w hl ⟨by omega, by omega⟩
theorem q93 (hl : LW w m H n k0 sn sf) (hx1 : bd x1) (h1 : 0 ≤ x1 ∧ x1 < m 1) (h : qh m H n k0 sn sf Q (sCf m x1.toNat : Nat)) : pC 93 [.ref 0, iv x1] w Q := by
  have hb := sCf_bd hl.ok x1.toNat
  refine c93 hl.sh hl.br hx1 ?_
  unfold sp93 spU
  rw [if_pos h1]
  exact h w hl ⟨by omega, by omega⟩
/-- a number of a conflict, by its place -/
def sCfA (m : Row) (u : Nat) (x2 x3 : Int) : Int := if sel (sCfP m u) x2 (64 * (m 4).toNat) = -1 then -1 else
  if x3 = 0 then sel (sCfP m u) x2 (64 * (m 4).toNat) / 64 else if x3 = 1 then sel (sCfP m u) x2 (64 * (m 4).toNat) % 64 else
  if x3 = 2 then (wN (m 0).toNat ((sel (sCfP m u) x2 (64 * (m 4).toNat)).toNat % 64) (sWay m u ((sel (sCfP m u) x2 (64 * (m 4).toNat)).toNat / 64) ((sel (sCfP m u) x2 (64 * (m 4).toNat)).toNat % 64)) : Nat) else sShort m u ((sel (sCfP m u) x2 (64 * (m 4).toNat)).toNat / 64) ((sel (sCfP m u) x2 (64 * (m 4).toNat)).toNat % 64)
theorem sCfA_bd (hR : RowOK m) {u : Nat} : bd (sCfA m u x2 x3) := by
  have h0 := hR.s
  have h4 := hR.t
  have hsb := sel_bd (P := sCfP m u) (x := x2) (n := 64 * (m 4).toNat)
  unfold sCfA
  split
  · exact ⟨by decide, by decide⟩
  · rename_i q
    obtain ⟨j, j1, j2, j3, j4⟩ := sel_is q
    rw [j4]
    split
    · constructor <;> omega
    · split
      · constructor <;> omega
      · split
        · have hS : ((j % 64 : Nat) : Int) < m 0 := by
            unfold sCfP at j2
            rw [Bool.and_eq_true, decide_eq_true_eq] at j2
            exact j2.1
          have hw := sWay_bd hR u (j / 64) (j % 64)
          have := wN_lt (S := (m 0).toNat) (s := j % 64) (i := sWay m u (j / 64) (j % 64)) (by omega) (by omega)
          rw [Int.toNat_natCast]
          constructor <;> omega
        · rw [Int.toNat_natCast]
          have := sShort_bd hR (u := u) (t := j / 64) (s := j % 64) (by omega)
          constructor <;> omega
theorem q97 (hl : LW w m H n k0 sn sf) (hx1 : bd x1) (hx2 : bd x2) (hx3 : bd x3) (h1 : 0 ≤ x1 ∧ x1 < m 1) (h3 : 0 ≤ x3 ∧ x3 ≤ 3) (h : qh m H n k0 sn sf Q (sCfA m x1.toNat x2 x3)) : pC 97 [.ref 0, iv x1, iv x2, iv x3] w Q := by
  refine c97 hl.sh hl.br hx1 hx2 hx3 ?_
  unfold sp97 spU spR
  rw [if_pos h1, if_pos h3]
  exact h w hl (sCfA_bd hl.ok)
/-- a number of a collision, by its place -/
def sCoQ (m : Row) (x1 x2 : Int) : Int := if sel (sCoP m) x1 (4096 * 36) = -1 then -1 else sCoA m (sel (sCoP m) x1 (4096 * 36)).toNat x2
theorem sCoQ_bd : bd (sCoQ m x1 x2) := by
  have hsb := sel_bd (P := sCoP m) (x := x1) (n := 4096 * 36)
  unfold sCoQ
  split
  · exact ⟨by decide, by decide⟩
  · rename_i q
    obtain ⟨j, j1, -, -, j4⟩ := sel_is q
    rw [j4, Int.toNat_natCast]
    have e1 := Nat.mod_le (j / 4096) (m 1).toNat
    have e2 := Nat.div_le_self (j / 4096) (m 1).toNat
    have e3 := Nat.mod_le (j / 4096 + 1) (m 1).toNat
    have e4 := Nat.div_le_self (j / 4096 + 1) (m 1).toNat
    unfold sCoA
    generalize j / 4096 % (m 1).toNat = a1 at e1 ⊢
    generalize j / 4096 / (m 1).toNat = a2 at e2 ⊢
    generalize (j / 4096 + 1) % (m 1).toNat = a3 at e3 ⊢
    generalize (j / 4096 + 1) / (m 1).toNat = a4 at e4 ⊢
    split
    · constructor <;> omega
    · split
      · constructor <;> omega
      · split
        · constructor <;> omega
        · split
          · constructor <;> omega
          · split
            · constructor <;> omega
            · constructor <;> omega
theorem q104 (hl : LW w m H n k0 sn sf) (hx1 : bd x1) (hx2 : bd x2) (h2 : 0 ≤ x2 ∧ x2 ≤ 5) (h : qh m H n k0 sn sf Q (sCoQ m x1 x2)) : pC 104 [.ref 0, iv x1, iv x2] w Q := by
  refine c104 hl.sh hl.br hx1 hx2 ?_
  unfold sp104 spR
  rw [if_pos h2]
  exact h w hl sCoQ_bd
theorem q108 (hl : LW w m H n k0 sn sf) (hx1 : bd x1) (h1 : 0 ≤ x1 ∧ x1 < m 1) (h : qh m H n k0 sn sf Q ((sNotes m x1 : Nat) - (sPlayed m x1 : Nat))) : pC 108 [.ref 0, iv x1] w Q := by
  have a1 := sNotes_le hl.ok x1
  have a2 := sPlayed_le hl.ok x1
  refine c108 hl.sh hl.br hx1 ?_
  unfold sp108 spU
  rw [if_pos h1]
  exact h w hl ⟨by omega, by omega⟩
theorem q110 (hl : LW w m H n k0 sn sf) (hx1 : bd x1) (h1 : 0 ≤ x1 ∧ x1 < m 1) (h : qh m H n k0 sn sf Q (sPins m x1.toNat - (sPlayed m x1 : Nat))) : pC 110 [.ref 0, iv x1] w Q := by
  have a1 := sPins_bd hl.ok x1.toNat
  have a2 := sPlayed_le hl.ok x1
  refine c110 hl.sh hl.br hx1 ?_
  unfold sp110 spU
  rw [if_pos h1]
  exact h w hl ⟨by omega, by omega⟩
theorem q113 (hl : LW w m H n k0 sn sf) (hx1 : bd x1) (h1 : 0 ≤ x1 ∧ x1 < m 1) (h : ∀ w', LW w' m H n k0 sn sf → Q (.inl (some (iv (if sNotes m x1 = sPlayed m x1 ∧ sPins m x1.toNat = (sPlayed m x1 : Nat) ∧ sCf m x1.toNat = 0 ∧ ¬ (0 < cnt (sHasT m x1.toNat) (m 4).toNat) then 1 else 0)))) w') : pC 113 [.ref 0, iv x1] w Q := by
  refine c113 hl.sh hl.br hx1 ?_
  unfold sp113 spU
  rw [if_pos h1]
  exact h w hl
theorem q125 (hl : LW w m H n k0 sn sf) (hx1 : bd x1) (h1 : 0 ≤ x1 ∧ x1 < m 1) (h : qh m H n k0 sn sf Q (if (sSeek m x1 (-1)).1 = -2 then -2 else ((sSeek m x1 (-1)).2.2.1 : Int))) : pC 125 [.ref 0, iv x1] w Q := by
  have a1 := sSeek_tr m x1 (-1)
  refine c125 hl.sh hl.br hx1 (fun w' hC => ?_)
  unfold sp125 spU
  rw [if_pos h1]
  exact h w' (hl.cf hC) (by split <;> constructor <;> omega)
theorem q127 (hl : LW w m H n k0 sn sf) (hx1 : bd x1) (h1 : 0 ≤ x1 ∧ x1 < m 1) (h : qh m H n k0 sn sf Q (sSeek m x1 (-1)).1) : pC 127 [.ref 0, iv x1] w Q := by
  have a1 := sSeek_out m x1 (-1)
  refine c127 hl.sh hl.br hx1 (fun w' hC => ?_)
  unfold sp127 spU
  rw [if_pos h1]
  exact h w' (hl.cf hC) (by constructor <;> omega)
/-- the tooth for a note in the layout of its tune -/
def sLdOn (m : Row) (k : Nat) : Int := if (sSeek m (rN m k 0) (-1)).1 = 1 then (sSeek m (rN m k 0) (-1)).2.2.2 (fnd (fun i => decide (ordN m (rN m k 0) i = k)) (ordR m (rN m k 0))) else -1
/-- the place of a note in the order -/
theorem ord_at (hR : RowOK m) {k : Nat} (hk : (k : Int) < m 5) {u : Int} (hu : rN m k 0 = u) : fnd (fun i => decide (ordN m u i = k)) (ordR m u) < ordR m u ∧ ordN m u (fnd (fun i => decide (ordN m u i = k)) (ordR m u)) = k := by
  have h5 := hR.n
  obtain ⟨i, i1, i2⟩ := ordN_in (u := u) (m 5).toNat k (by omega) hu
  have hs := fnd_spec (fun i => decide (ordN m u i = k)) (ordR m u)
  have hlt : fnd (fun i => decide (ordN m u i = k)) (ordR m u) < ordR m u := by
    rcases Nat.lt_or_ge (fnd (fun i => decide (ordN m u i = k)) (ordR m u)) (ordR m u) with q2 | q2
    · exact q2
    · have h9 := hs.2.1 i (by have : i < ordR m u := i1; omega)
      rw [decide_eq_true (show ordN m u i = k from i2)] at h9
      cases h9
  have h3 := hs.2.2 hlt
  simp only [decide_eq_true_eq] at h3
  exact ⟨hlt, h3⟩
theorem sLdOn_is (hR : RowOK m) {k : Nat} (hk : (k : Int) < m 5) : ((sSeek m (rN m k 0) (-1)).1 = 1 → 0 ≤ sLdOn m k ∧ sLdOn m k < m 4 ∧ rT m (sLdOn m k).toNat 0 = rN m k 2) ∧ ((sSeek m (rN m k 0) (-1)).1 ≠ 1 → sLdOn m k = -1) := by
  refine ⟨fun q => ?_, fun q => if_neg q⟩
  obtain ⟨f1, f2⟩ := ord_at hR hk (rfl : rN m k 0 = _)
  obtain ⟨t, t1, t2, t3, -, -⟩ := (sSeek_lay q).1 _ f1
  rw [f2] at t3
  unfold sLdOn
  rw [if_pos q, t1]
  exact ⟨by omega, by omega, by rw [Int.toNat_natCast]; exact t3⟩
theorem sLdOn_bd (hR : RowOK m) {k : Nat} (hk : (k : Int) < m 5) : -1 ≤ sLdOn m k ∧ sLdOn m k < 12 := by
  have h4 := hR.t
  have h := sLdOn_is hR hk
  by_cases q : (sSeek m (rN m k 0) (-1)).1 = 1
  · have := h.1 q; omega
  · have := h.2 q; omega
theorem q131 (hl : LW w m H n k0 sn sf) (hx1 : bd x1) (h1 : 0 ≤ x1 ∧ x1 < m 5) (h : qh m H n k0 sn sf Q (sLdOn m x1.toNat)) : pC 131 [.ref 0, iv x1] w Q := by
  have hb := sLdOn_bd hl.ok (k := x1.toNat) (by omega)
  refine c131 hl.sh hl.br hx1 (fun w' hC => ?_)
  unfold sp131 spN
  rw [if_pos h1]
  exact h w' (hl.cf hC) ⟨by omega, by omega⟩
theorem q134 (hl : LW w m H n k0 sn sf) (hx1 : bd x1) (h1 : 0 ≤ x1 ∧ x1 < m 1) (h : qh m H n k0 sn sf Q (if (sSeek m x1 (-1)).1 = 1 then sSpare m x1 else -1)) : pC 134 [.ref 0, iv x1] w Q := by
  refine c134 hl.sh hl.br hx1 (fun w' hC => ?_)
  unfold sp134 spU
  rw [if_pos h1]
  refine h w' (hl.cf hC) ?_
  split
  · exact bd_toInt _
  · exact ⟨by decide, by decide⟩
theorem sFast_bd (m : Row) (u : Int) : ∀ v, -1 ≤ sFast m u v ∧ sFast m u v ≤ v := by
  intro v
  induction v with
  | zero => exact ⟨by show (-1 : Int) ≤ -1; decide, by show (-1 : Int) ≤ 0; decide⟩
  | succ v ih =>
    unfold sFast
    split
    · exact ⟨by omega, Int.le_refl _⟩
    · exact ⟨ih.1, by omega⟩
theorem q136 (hl : LW w m H n k0 sn sf) (hx1 : bd x1) (h1 : 0 ≤ x1 ∧ x1 < m 1) (h : qh m H n k0 sn sf Q (sFast m x1 4)) : pC 136 [.ref 0, iv x1] w Q := by
  have hb := sFast_bd m x1 4
  refine c136 hl.sh hl.br hx1 (fun w' hC => ?_)
  unfold sp136 spU
  rw [if_pos h1]
  exact h w' (hl.cf hC) ⟨by omega, by omega⟩
/-- the tooth without which there is no layout -/
def sNdd (m : Row) (u : Int) : Int := if (sSeek m u (-1)).1 = 1 then (if fnd (sNeedP m u) (m 4).toNat < (m 4).toNat then (fnd (sNeedP m u) (m 4).toNat : Int) else -1) else -1
theorem q138 (hl : LW w m H n k0 sn sf) (hx1 : bd x1) (h1 : 0 ≤ x1 ∧ x1 < m 1) (h : qh m H n k0 sn sf Q (sNdd m x1)) : pC 138 [.ref 0, iv x1] w Q := by
  have h4 := hl.ok.t
  refine c138 hl.sh hl.br hx1 (fun w' hC => ?_)
  unfold sp138 spU
  rw [if_pos h1]
  refine h w' (hl.cf hC) ?_
  unfold sNdd
  split
  · split
    · constructor <;> omega
    · exact ⟨by decide, by decide⟩
  · exact ⟨by decide, by decide⟩
theorem q144 (hl : LW w m H n k0 sn sf) (hx1 : bd x1) (h1 : 0 ≤ x1 ∧ x1 < m 1) (h : qh m H n k0 sn sf Q (sTurnA m x1.toNat ((m 0).toNat - 1)).1) : pC 144 [.ref 0, iv x1] w Q := by
  have h0 := hl.ok.s
  have hb := sTurnA_bd m x1.toNat ((m 0).toNat - 1)
  refine c144 hl.sh hl.br hx1 (fun w' hC => ?_)
  unfold sp144 spU
  rw [if_pos h1]
  exact h w' (hl.cf hC) ⟨by omega, by omega⟩
theorem q155 (hl : LW w m H n k0 sn sf) (hx1 : bd x1) (h1 : 0 ≤ x1 ∧ x1 < m 1) (h : qh m H n k0 sn sf Q (sSilA m x1.toNat (m 0).toNat)) : pC 155 [.ref 0, iv x1] w Q := by
  have hb := sSilA_bd hl.ok x1.toNat (m 0).toNat
  refine c155 hl.sh hl.br hx1 ?_
  unfold sp155 spU
  rw [if_pos h1]
  exact h w hl ⟨by omega, by omega⟩
theorem q158 (hl : LW w m H n k0 sn sf) (hx1 : bd x1) (hx2 : bd x2) (h2 : 0 ≤ x2 ∧ x2 ≤ 3) (h : qh m H n k0 sn sf Q (sHeard m x1 x2)) : pC 158 [.ref 0, iv x1, iv x2] w Q := by
  refine c158 hl.sh hl.br hx1 hx2 ?_
  unfold sp158 spR
  rw [if_pos h2]
  exact h w hl (sHeard_bd hl.br x1 x2 h2)
theorem rRun_b (hR : RowOK m) (hF : RFin m) {x : Int} (h1 : 1 ≤ x ∧ x ≤ 200) : 0 ≤ rRun m x.toNat 10 ∧ rRun m x.toNat 10 ≤ rRun m x.toNat 9 ∧ rRun m x.toNat 9 ≤ 2000000 := by
  obtain ⟨f1, f2⟩ := hF
  obtain ⟨g1, g2, g3⟩ := rRun_ok hR f1 x.toNat (by omega)
  have := g1.pb
  omega
theorem q160 (hl : LW w m H n k0 sn sf) (hx1 : bd x1) (hF : RFin m) (h1 : 1 ≤ x1 ∧ x1 ≤ 200) (h : qh m H n k0 sn sf Q (rRun m x1.toNat 9 - rRun m x1.toNat 10 - (m 9 - m 10))) : pC 160 [.ref 0, iv x1] w Q := by
  have hb := rRun_b hl.ok hF h1
  have h9 := hl.ok.pp
  have h8 := hl.ok.pt
  have h10 := hl.ok.pb
  refine c160 hl.sh hl.br hF hx1 (fun w' hC => ?_)
  unfold sp160 spR
  rw [if_pos h1]
  exact h w' (hl.cf hC) ⟨by omega, by omega⟩
theorem q162 (hl : LW w m H n k0 sn sf) (hx1 : bd x1) (hF : RFin m) (h1 : 1 ≤ x1 ∧ x1 ≤ 200) (h : qh m H n k0 sn sf Q (rRun m x1.toNat 10 - m 10)) : pC 162 [.ref 0, iv x1] w Q := by
  have hb := rRun_b hl.ok hF h1
  have h9 := hl.ok.pp
  have h8 := hl.ok.pt
  have h10 := hl.ok.pb
  refine c162 hl.sh hl.br hF hx1 (fun w' hC => ?_)
  unfold sp162 spR
  rw [if_pos h1]
  exact h w' (hl.cf hC) ⟨by omega, by omega⟩
/-- in which tick the first buzz comes -/
def sFst (m : Row) : Int := if fnd (sFB m) (3 * (m 0).toNat) < 3 * (m 0).toNat then (fnd (sFB m) (3 * (m 0).toNat) : Int) else -1
theorem q49 (hl : LW w m H n k0 sn sf) (hF : RFin m) (h : qh m H n k0 sn sf Q (sFst m)) : pC 49 [.ref 0] w Q := by
  have h0 := hl.ok.s
  refine c49 hl.sh hl.br hF (fun w' hC => h w' (hl.cf hC) ?_)
  unfold sFst
  split
  · constructor <;> omega
  · exact ⟨by decide, by decide⟩
/-- the tooth that is plucked next -/
def sNxt (m : Row) : Int := if fnd (sNT m) (12 * (m 0).toNat) < 12 * (m 0).toNat then ((fnd (sNT m) (12 * (m 0).toNat) % 12 : Nat) : Int) else -1
theorem q50 (hl : LW w m H n k0 sn sf) (h : qh m H n k0 sn sf Q (sNxt m)) : pC 50 [.ref 0] w Q := by
  refine c50 hl.sh hl.br (h w hl ?_)
  unfold sNxt
  split
  · constructor <;> omega
  · exact ⟨by decide, by decide⟩
end LQS
