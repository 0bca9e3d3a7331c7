/-! THE READER: pitches, what comes into a text; the class -/
def sPt (l : List Nat) (p : Nat) : RS :=
  if fnd (fun k => sIsW l (sW0 l p) (sW1 l p) (nmL.getD k [])) 12 = 12 then .inl (1, sW0 l p)
  else match sRd l (sW1 l p) 0 1 with
    | .inl x => .inl x
    | .inr y => .inr (y.1, 12 * y.2 + (fnd (fun k => sIsW l (sW0 l p) (sW1 l p) (nmL.getD k [])) 12 : Nat))
theorem sPt_bd {l : List Nat} {p q : Nat} {v : Int} (hp : p ≤ l.length) (h : sPt l p = .inr (q, v)) : p < q ∧ q ≤ l.length ∧ 0 ≤ v ∧ v < 24 := by
  have h1 : p ≤ sW0 l p ∧ sW0 l p ≤ l.length := sWh_bd (P := isSp) hp
  have h2 : sW0 l p ≤ sW1 l p ∧ sW1 l p ≤ l.length := sWh_bd (P := isAz) h1.2
  have h3 := (fnd_spec (fun k => sIsW l (sW0 l p) (sW1 l p) (nmL.getD k [])) 12).1
  unfold sPt at h
  split at h
  · exact absurd h (fun z => by cases z)
  · split at h
    · exact absurd h (fun z => by cases z)
    · rename_i y hy
      have h4 := Prod.mk.inj (Sum.inr.inj h)
      have h5 := sRd_bd (q := y.1) (v := y.2) h2.2 hy
      omega
section RDP
variable {w : PW} {Q : PO → PW → Prop} {l : List Nat} {p : Nat} {a b s : Int}
theorem l23_7 {w : PW} {Q : PO → PW → Prop}  (hs : Sh w) (hp : p ≤ l.length) (hR : RD w l (sW1 l p) a b s) (hE : ∀ kk aa, sPt l p = .inl (kk, aa) → ∀ w2 q, Sh w2 → RD w2 l q kk (aa : Nat) s → RX w w2 → Q (.inl (some (iv (-1)))) w2) (h : ∀ q v, sPt l p = .inr (q, v) → ∀ w2, Sh w2 → RD w2 l q a b s → RX w w2 → Q (.inl (some (iv v))) w2) : ∀ k i : Nat, i + k = 12 → (∀ y, y < i → sIsW l (sW0 l p) (sW1 l p) (nmL.getD y []) = false) → ∀ o3 : Option Value, pc2 o3 = false → pX 23 7 [some (.ref 135), some (iv (sW0 l p : Nat)), some (iv (i : Nat)), o3] [] w Q := by
  have h1 : p ≤ sW0 l p ∧ sW0 l p ≤ l.length := sWh_bd (P := isSp) hp
  have h2 : sW0 l p ≤ sW1 l p ∧ sW1 l p ≤ l.length := sWh_bd (P := isAz) h1.2
  have h7 := hR.2.2.2.2.2.2.1
  intro k
  induction k with
  | zero =>
    intro i hi hI o3 ho3
    refine v23_7 hs (bdk (by omega)) (bdk (by omega)) ho3 ⟨fun _ w2 e2 => ?_, fun q => by omega⟩
    obtain ⟨s4, R4, F4⟩ := hR.fail hs ⟨by decide, by decide⟩ (bdk (by omega)) e2
    have e : fnd (fun k => sIsW l (sW0 l p) (sW1 l p) (nmL.getD k [])) 12 = 12 := fnd_eq (i := 12) (fun y hy => hI y (by omega)) (fun q => absurd q (by omega)) (by omega)
    exact hE 1 _ (by unfold sPt; rw [if_pos e]) w2 _ s4 R4 F4
  | succ k ih =>
    intro i hi hI o3 ho3
    have e0 := nmC_txt i (by omega)
    refine v23_7 hs (bdk (by omega)) (bdk (by omega)) ho3 ⟨fun q => by omega, fun _ => c13 hs hR e0.2 h2.1 ?_⟩
    rw [e0.1]
    by_cases q : sIsW l (sW0 l p) (sW1 l p) (nmL.getD i []) = true
    · rw [if_pos q]
      have e : fnd (fun k => sIsW l (sW0 l p) (sW1 l p) (nmL.getD k [])) 12 = i := fnd_eq hI (fun _ => q) (by omega)
      refine kI_iv ⟨by decide, by decide⟩ ⟨hs, fun z => absurd z (by decide), fun _ => c15 hs hR (by decide) (by decide) ⟨by decide, by decide⟩ ⟨by decide, by decide⟩ (fun kk aa q2 w2 p2 s2 R2 F2 => kI_iv ⟨by decide, by decide⟩ ⟨s2, fun z => absurd rfl z, fun _ => hE kk aa ?_ w2 p2 s2 R2 F2⟩) (fun p2 v q2 w2 s2 R2 F2 => ?_)⟩
      · unfold sPt
        rw [e, if_neg (by omega), q2]
      · have hb := sRd_bd h2.2 q2
        refine kI_iv ⟨by omega, by omega⟩ ⟨s2, fun _ => ?_, fun z => by omega⟩
        refine h p2 (12 * v + (i : Nat)) ?_ w2 s2 R2 F2
        unfold sPt
        rw [e, if_neg (by omega), q2]
    · rw [if_neg q]
      refine kI_iv bd0 ⟨hs, fun _ => ih (i + 1) (by omega) (fun y hy => ?_) o3 ho3, fun z => absurd rfl z⟩
      by_cases q2 : y = i
      · rw [q2]
        exact Bool.eq_false_iff.mpr q
      · exact hI y (by omega)
theorem c23 (hs : Sh w) (hR : RD w l p a b s) (hE : ∀ kk aa, sPt l p = .inl (kk, aa) → ∀ w2 q, Sh w2 → RD w2 l q kk (aa : Nat) s → RX w w2 → Q (.inl (some (iv (-1)))) w2) (hV : ∀ q v, sPt l p = .inr (q, v) → ∀ w2, Sh w2 → RD w2 l q a b s → RX w w2 → Q (.inl (some (iv v))) w2) : pC 23 [.ref 135] w Q := by
  have h5 := hR.2.2.2.2.2.1
  have h7 := hR.2.2.2.2.2.2.1
  have h1 : p ≤ sW0 l p ∧ sW0 l p ≤ l.length := sWh_bd (P := isSp) h5
  exact e23 hs (c12 hs hR (fun w2 s2 R2 F2 => kI_iv (bdk (by omega)) ⟨s2, l23_7 s2 h5 R2 (fun kk aa q w3 p3 s3 R3 F3 => hE kk aa q w3 p3 s3 R3 (F2.tr F3)) (fun q v e w3 s3 R3 F3 => hV q v e w3 s3 R3 (F2.tr F3)) 12 0 rfl (fun y hy => absurd hy (Nat.not_lt_zero y)) none rfl⟩))
end RDP

