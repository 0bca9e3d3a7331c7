/-! THE LAW: purity and wear -/
def vPur (m : Row) : UInt32 := if m 9 = 0 then FP.fconst1 else FP.fdiv (FP.i2f (Int32.ofInt (m 9 - m 10))) (FP.i2f (Int32.ofInt (m 9)))
def vWear (m : Row) (x : Int) : UInt64 := if sAll m = 0 then FP.dconst0 else FP.ddiv (FP.i2d (Int32.ofInt (sTooth m x.toNat))) (FP.i2d (Int32.ofInt (sAll m)))
section LFL
variable {w : PW} {Q : PO → PW → Prop} {m : Row} {x1 : Int}
theorem vPur_v (hm : RowOK m) (hF : RFin m) : (vPur m).toNat ≤ 2139095040 ∧ (m 9 ≠ 0 → FP.fdiv (FP.i2f (Int32.ofInt (m 9 - m 10))) (FP.i2f (Int32.ofInt (m 9))) &&& 0x7fffffff ≤ 0x7f800000) := by
  have h9 := hm.2.2.2.2.2.2.2.2.2.1
  have h10 := hm.2.2.2.2.2.2.2.2.2.2.1
  have f1 := hF.1
  have f2 := hF.2
  have hv : m 9 ≠ 0 → (FP.fdiv (FP.i2f (Int32.ofInt (m 9 - m 10))) (FP.i2f (Int32.ofInt (m 9)))).toNat ≤ 2139095040 := fun q => fdiv_v ⟨by omega, by omega⟩ ⟨by omega, by omega⟩
  refine ⟨?_, fun q => msk32 (hv q)⟩
  unfold vPur
  by_cases q : m 9 = 0
  · rw [if_pos q]
    decide +kernel
  · rw [if_neg q]
    exact hv q
theorem vWear_v (hm : RowOK m) (t : Nat) : sAll m ≠ 0 → FP.ddiv (FP.i2d (Int32.ofInt (sTooth m t))) (FP.i2d (Int32.ofInt (sAll m))) &&& 0x7fffffffffffffff ≤ 0x7ff0000000000000 := by
  have h1 := sAll_bd hm
  have h2 := sTooth_bd hm t
  intro q
  exact msk64 (ddiv_v ⟨by omega, by omega⟩ ⟨by omega, by omega⟩)
theorem c53 (hs : Sh w) (hB : BR w 1 m) (hF : RFin m) (h : Q (.inl (some (.float (vPur m)))) w) : pC 53 [.ref 0] w Q := by
  refine e53 hs ?_
  rw [hB.pp, hB.pb]
  have hv := vPur_v hB.ok hF
  unfold vPur at h
  refine ⟨fun q => ⟨hv.2 q, ?_⟩, fun q => ?_⟩
  · rw [if_neg q] at h
    exact h
  · rw [if_pos q] at h
    exact h
theorem c346 (hs : Sh w) (hM : MR w m) (hF : RFin m) (h : ∀ w2, MqF w w2 → gI w2 169 0 = 0 → Q (.inl (some (.float (vPur m)))) w2) : pC 346 [.ref 169] w Q := by
  refine e346 hs (fun w1 e1 => ?_)
  obtain ⟨F1, g1, k1⟩ := MqF.set hs e1 (slt_o tbC_169 rfl) bd0 (by decide)
  have hM1 := F1.mr hM
  have h := h w1 F1 g1
  rw [hM1.g (k := 9) rfl, hM1.g (k := 10) rfl]
  have hv := vPur_v hM.ok hF
  unfold vPur at h
  refine ⟨fun q => ⟨hv.2 q, ?_⟩, fun q => ?_⟩
  · rw [if_neg q] at h
    exact h
  · rw [if_pos q] at h
    exact h
theorem c203 (hs : Sh w) (hB : BR w 1 m) (hx1 : bd x1) (h1 : 0 ≤ x1 ∧ x1 < m 4 → Q (.inl (some (.double (vWear m x1)))) w) (h2 : ¬ (0 ≤ x1 ∧ x1 < m 4) → Q (.inr 2) w) : pC 203 [.ref 0, iv x1] w Q := by
  have ha := sAll_bd hB.ok
  have ht := sTooth_bd hB.ok x1.toNat
  refine e203 hs hx1 ?_
  rw [hB.t]
  refine ⟨fun q => c59 hs hB (kI_iv ⟨by omega, by omega⟩ ⟨hs, fun q2 => ?_, fun q2 => ?_⟩), h2⟩
  · have e : x1 = ((x1.toNat : Nat) : Int) := by omega
    have h1 := h1 q
    unfold vWear at h1
    rw [if_neg q2] at h1
    rw [e]
    refine c68 hs hB (by omega) (kI_iv ⟨by omega, by omega⟩ ⟨hs, vWear_v hB.ok _ q2, ?_⟩)
    exact h1
  · have h1 := h1 q
    unfold vWear at h1
    rw [if_pos q2] at h1
    exact h1
theorem c345 (hs : Sh w) (hM : MR w m) (hx1 : bd x1) (h1 : 0 ≤ x1 ∧ x1 < m 4 → ∀ w2, MqF w w2 → gI w2 169 0 = 0 → Q (.inl (some (.double (vWear m x1)))) w2) (h2 : ¬ (0 ≤ x1 ∧ x1 < m 4) → ∀ w2, MqF w w2 → gI w2 169 0 = 1 → Q (.inl (some (.double FP.dconst0))) w2) : pC 345 [.ref 169, iv x1] w Q := by
  have ha := sAll_bd hM.ok
  have ht := sTooth_bd hM.ok x1.toNat
  have h4 := hM.ok.2.2.2.2.1
  refine e345 hs hx1 ?_
  rw [hM.g (k := 4) rfl]
  refine ⟨⟨by omega, by omega⟩, fun q w2 e2 => ?_, fun q w2 e2 => ?_⟩
  · obtain ⟨F2, g2, k2⟩ := MqF.set hs e2 (slt_o tbC_169 rfl) bd0 (by decide)
    have hM2 := F2.mr hM
    refine c248 F2.1 hM2 (kI_iv ⟨by omega, by omega⟩ ⟨F2.1, fun q2 => ?_, fun q2 => ?_⟩)
    · have e : x1 = ((x1.toNat : Nat) : Int) := by omega
      have h1 := h1 q w2 F2 g2
      unfold vWear at h1
      rw [if_neg q2] at h1
      rw [e]
      refine c263 F2.1 hM2 (by omega) (kI_iv ⟨by omega, by omega⟩ ⟨F2.1, vWear_v hM.ok _ q2, ?_⟩)
      exact h1
    · have h1 := h1 q w2 F2 g2
      unfold vWear at h1
      rw [if_pos q2] at h1
      exact h1
  · obtain ⟨F2, g2, k2⟩ := MqF.set hs e2 (slt_o tbC_169 rfl) ⟨by decide, by decide⟩ (by decide)
    exact h2 q w2 F2 g2
/-- a number that may be compared with itself: it's the same, or it's none for both -/
theorem f2d_ok (hm : RowOK m) (hF : RFin m) : FP.f2d (vPur m) &&& 0x7fffffffffffffff ≤ 0x7ff0000000000000 := msk64 (f2d_v (vPur_v hm hF).1)
end LFL
