/-! FLOATS: what is divided is no NaN -/


theorem fe_fin {f : FP.Core.Fmt} (h2 : 2 ^ f.p = 2 * f.tails) (hT : 0 < f.tails) (hq : f.qmax - f.qmin + 3 ≤ (f.exps : Int)) {c : Nat} {q : Int} (hc : c < 2 ^ f.p) (h1 : f.qmin ≤ q) (h3 : q ≤ f.qmax) : FP.Core.encode f (.fin false c q) < (f.exps - 1) * f.tails ∧ (0 < c → 0 < FP.Core.encode f (.fin false c q)) := by
  have hX : (1 * f.tails) ≤ (f.exps - 1) * f.tails := Nat.mul_le_mul_right _ (by omega)
  unfold FP.Core.encode FP.Core.assemble
  by_cases h : c < f.tails
  · simp only [if_pos h, Bool.toNat_false, Nat.zero_mul, Nat.zero_add]
    exact ⟨by omega, fun z => z⟩
  · simp only [if_neg h, Bool.toNat_false, Nat.zero_mul, Nat.zero_add]
    have hm : ((q - f.qmin).toNat + 1 + 1) * f.tails ≤ (f.exps - 1) * f.tails := Nat.mul_le_mul_right _ (by omega)
    rw [Nat.add_mul ((q - f.qmin).toNat + 1) 1] at hm
    have hp : 1 * f.tails ≤ ((q - f.qmin).toNat + 1) * f.tails := Nat.mul_le_mul_right _ (by omega)
    exact ⟨by omega, fun _ => by omega⟩
theorem fe_inf {f : FP.Core.Fmt} : FP.Core.encode f (.inf false) = (f.exps - 1) * f.tails := by
  unfold FP.Core.encode FP.Core.assemble
  simp only [Bool.toNat_false, Nat.zero_mul, Nat.zero_add, Nat.add_zero]
theorem fe_bound {f : FP.Core.Fmt} (h2 : 2 ^ f.p = 2 * f.tails) (hT : 0 < f.tails) (hq : f.qmax - f.qmin + 3 ≤ (f.exps : Int)) {c : Nat} {q : Int} (hc : c < 2 ^ f.p) (h1 : f.qmin ≤ q) : FP.Core.encode f (FP.Core.bound f false c q) ≤ (f.exps - 1) * f.tails := by
  unfold FP.Core.bound
  by_cases h : q ≤ f.qmax
  · rw [if_pos h]
    exact Nat.le_of_lt (fe_fin h2 hT hq hc h1 h).1
  · rw [if_neg h, fe_inf]
    exact Nat.le_refl _
/-- a rounded ratio isn't a NaN -/
theorem fe_ratio {f : FP.Core.Fmt} (h2 : 2 ^ f.p = 2 * f.tails) (hT : 0 < f.tails) (hq : f.qmax - f.qmin + 3 ≤ (f.exps : Int)) (h0 : f.qmin ≤ f.qmax) (num den : Nat) (e : Int) : FP.Core.encode f (FP.Core.roundRatio f false num den e) ≤ (f.exps - 1) * f.tails := by
  unfold FP.Core.roundRatio
  by_cases h : num = 0
  · rw [if_pos h]
    exact Nat.le_of_lt (fe_fin h2 hT hq (by omega) (Int.le_refl _) h0).1
  · rw [if_neg h]
    have hm : f.qmin ≤ FP.Core.quantum f num den e := by unfold FP.Core.quantum; omega
    unfold FP.Core.roundAt FP.Core.settle
    split
    · rename_i hc
      exact fe_bound h2 hT hq hc hm
    · exact fe_bound h2 hT hq (by omega) (by omega)
theorem nearest_1 (n : Nat) : FP.Core.nearest n 1 = n := by
  unfold FP.Core.nearest
  rw [Nat.mod_one, if_pos (by decide), Nat.div_one]
/-- a whole number of few digits is a number, and not zero if it isn't -/
theorem fe_int {f : FP.Core.Fmt} (h2 : 2 ^ f.p = 2 * f.tails) (hT : 0 < f.tails) (hq : f.qmax - f.qmin + 3 ≤ (f.exps : Int)) (hp : 24 ≤ f.p) (hn : f.qmin < 0) (hx : 2 ≤ f.qmax) {a : Int} (ha : 0 ≤ a ∧ a < 16777216) : FP.Core.fromInt f a < (f.exps - 1) * f.tails ∧ (0 < a → 0 < FP.Core.fromInt f a) := by
  have e : FP.Core.fromInt f a = FP.Core.encode f (FP.Core.roundRatio f false a.natAbs 1 0) := by
    unfold FP.Core.fromInt FP.Core.ofInt
    rw [decide_eq_false (by omega)]
    rfl
  rw [e]
  unfold FP.Core.roundRatio
  by_cases h : a.natAbs = 0
  · rw [if_pos h]
    have := fe_fin h2 hT hq (c := 0) (q := f.qmin) (by omega) (Int.le_refl _) (by omega)
    exact ⟨this.1, fun z => by omega⟩
  · rw [if_neg h]
    have hl : a.natAbs.log2 < 24 := (Nat.log2_lt h).mpr (by omega)
    have hq1 : f.qmin ≤ FP.Core.quantum f a.natAbs 1 0 := by unfold FP.Core.quantum; omega
    have hle : FP.Core.leading a.natAbs 1 ≤ 23 := by
      unfold FP.Core.leading
      have : Nat.log2 1 = 0 := by decide
      simp only [this]
      split <;> omega
    have hq2 : FP.Core.quantum f a.natAbs 1 0 ≤ 0 := by unfold FP.Core.quantum; omega
    have hd : FP.Core.unitsDen 1 0 (FP.Core.quantum f a.natAbs 1 0) = 1 := by
      unfold FP.Core.unitsDen
      rw [show (FP.Core.quantum f a.natAbs 1 0 - 0).toNat = 0 from by omega]
    have hu : 0 < FP.Core.unitsNum a.natAbs 0 (FP.Core.quantum f a.natAbs 1 0) := Nat.mul_pos (by omega) (Nat.pow_pos (by decide))
    unfold FP.Core.roundAt FP.Core.settle
    rw [hd, nearest_1]
    split
    · rename_i hc
      unfold FP.Core.bound
      rw [if_pos (by omega)]
      have := fe_fin h2 hT hq hc hq1 (by omega)
      exact ⟨this.1, fun _ => this.2 hu⟩
    · unfold FP.Core.bound
      rw [if_pos (by omega)]
      have := fe_fin h2 hT hq (c := f.tails) (q := FP.Core.quantum f a.natAbs 1 0 + 1) (by omega) (by omega) (by omega)
      exact ⟨this.1, fun _ => this.2 hT⟩
theorem fe_dec {f : FP.Core.Fmt} (hT : 0 < f.tails) (hX : 2 ≤ f.exps) {v : Nat} (h : v < (f.exps - 1) * f.tails) : ∃ c q, FP.Core.decode f v = .fin false c q ∧ (0 < v → c ≠ 0) := by
  have hd : v / f.tails < f.exps - 1 := (Nat.div_lt_iff_lt_mul hT).mpr h
  have hE : FP.Core.fieldE f v = v / f.tails := Nat.mod_eq_of_lt (by omega)
  have hS : FP.Core.fieldS f v = false := by
    unfold FP.Core.fieldS
    rw [Nat.div_eq_of_lt (by omega : v / f.tails < f.exps)]
    rfl
  unfold FP.Core.decode
  rw [hE, hS, if_neg (by omega)]
  by_cases h0 : v / f.tails = 0
  · rw [if_pos h0]
    refine ⟨_, _, rfl, fun hv => ?_⟩
    have hlt : v < f.tails := by
      rcases Nat.div_eq_zero_iff.mp h0 with z | z
      · omega
      · exact z
    have : FP.Core.fieldT f v = v := Nat.mod_eq_of_lt hlt
    omega
  · rw [if_neg h0]
    exact ⟨_, _, rfl, fun _ => by omega⟩
theorem fe_div {f : FP.Core.Fmt} (h2 : 2 ^ f.p = 2 * f.tails) (hT : 0 < f.tails) (hq : f.qmax - f.qmin + 3 ≤ (f.exps : Int)) (hp : 24 ≤ f.p) (hn : f.qmin < 0) (hx : 2 ≤ f.qmax) {x y : Nat} (ha : x < (f.exps - 1) * f.tails) (hb : y < (f.exps - 1) * f.tails ∧ 0 < y) : FP.Core.div f x y ≤ (f.exps - 1) * f.tails := by
  obtain ⟨c, q, e, -⟩ := fe_dec hT (by omega) ha
  obtain ⟨d, r, e2, hd⟩ := fe_dec hT (by omega) hb.1
  unfold FP.Core.div
  rw [e, e2]
  show FP.Core.encode f (if d = 0 then (if c = 0 then .nan else .inf (false != false)) else FP.Core.roundRatio f (false != false) c d (q - r)) ≤ _
  rw [if_neg (hd hb.2)]
  exact fe_ratio h2 hT hq (by omega) c d (q - r)
theorem F32 : 2 ^ FP.Core.b32.p = 2 * FP.Core.b32.tails ∧ 0 < FP.Core.b32.tails ∧ FP.Core.b32.qmax - FP.Core.b32.qmin + 3 ≤ (FP.Core.b32.exps : Int) ∧ 24 ≤ FP.Core.b32.p ∧ FP.Core.b32.qmin < 0 ∧ 2 ≤ FP.Core.b32.qmax ∧ (FP.Core.b32.exps - 1) * FP.Core.b32.tails = 2139095040 := by decide +kernel
theorem F64 : 2 ^ FP.Core.b64.p = 2 * FP.Core.b64.tails ∧ 0 < FP.Core.b64.tails ∧ FP.Core.b64.qmax - FP.Core.b64.qmin + 3 ≤ (FP.Core.b64.exps : Int) ∧ 24 ≤ FP.Core.b64.p ∧ FP.Core.b64.qmin < 0 ∧ 2 ≤ FP.Core.b64.qmax ∧ (FP.Core.b64.exps - 1) * FP.Core.b64.tails = 9218868437227405312 := by decide +kernel
theorem i2f_v {a : Int} (ha : 0 ≤ a ∧ a < 16777216) : (FP.i2f (Int32.ofInt a)).toNat = FP.Core.fromInt FP.Core.b32 a := by
  obtain ⟨h1, h2, h3, h4, h5, h6, h7⟩ := F32
  have := (fe_int h1 h2 h3 h4 h5 h6 ha).1
  show (UInt32.ofNat (FP.Core.fromInt FP.Core.b32 (Int32.ofInt a).toInt)).toNat = _
  rw [Int32.toInt_ofInt_of_le (by omega) (by omega), UInt32.toNat_ofNat']
  exact Nat.mod_eq_of_lt (by omega)
theorem i2d_v {a : Int} (ha : 0 ≤ a ∧ a < 16777216) : (FP.i2d (Int32.ofInt a)).toNat = FP.Core.fromInt FP.Core.b64 a := by
  obtain ⟨h1, h2, h3, h4, h5, h6, h7⟩ := F64
  have := (fe_int h1 h2 h3 h4 h5 h6 ha).1
  show (UInt64.ofNat (FP.Core.fromInt FP.Core.b64 (Int32.ofInt a).toInt)).toNat = _
  rw [Int32.toInt_ofInt_of_le (by omega) (by omega), UInt64.toNat_ofNat']
  exact Nat.mod_eq_of_lt (by omega)
theorem fdiv_v {a b : Int} (ha : 0 ≤ a ∧ a < 16777216) (hb : 0 < b ∧ b < 16777216) : (FP.fdiv (FP.i2f (Int32.ofInt a)) (FP.i2f (Int32.ofInt b))).toNat ≤ 2139095040 := by
  obtain ⟨h1, h2, h3, h4, h5, h6, h7⟩ := F32
  have k1 := fe_int h1 h2 h3 h4 h5 h6 ha
  have k2 := fe_int h1 h2 h3 h4 h5 h6 (a := b) ⟨by omega, hb.2⟩
  have := fe_div h1 h2 h3 h4 h5 h6 k1.1 ⟨k2.1, k2.2 hb.1⟩
  show (UInt32.ofNat (FP.Core.div FP.Core.b32 (FP.i2f (Int32.ofInt a)).toNat (FP.i2f (Int32.ofInt b)).toNat)).toNat ≤ _
  rw [i2f_v ha, i2f_v ⟨by omega, hb.2⟩, UInt32.toNat_ofNat']
  exact Nat.le_trans (Nat.mod_le _ _) (by omega)
theorem ddiv_v {a b : Int} (ha : 0 ≤ a ∧ a < 16777216) (hb : 0 < b ∧ b < 16777216) : (FP.ddiv (FP.i2d (Int32.ofInt a)) (FP.i2d (Int32.ofInt b))).toNat ≤ 9218868437227405312 := by
  obtain ⟨h1, h2, h3, h4, h5, h6, h7⟩ := F64
  have k1 := fe_int h1 h2 h3 h4 h5 h6 ha
  have k2 := fe_int h1 h2 h3 h4 h5 h6 (a := b) ⟨by omega, hb.2⟩
  have := fe_div h1 h2 h3 h4 h5 h6 k1.1 ⟨k2.1, k2.2 hb.1⟩
  show (UInt64.ofNat (FP.Core.div FP.Core.b64 (FP.i2d (Int32.ofInt a)).toNat (FP.i2d (Int32.ofInt b)).toNat)).toNat ≤ _
  rw [i2d_v ha, i2d_v ⟨by omega, hb.2⟩, UInt64.toNat_ofNat']
  exact Nat.le_trans (Nat.mod_le _ _) (by omega)
theorem msk32 {v : UInt32} (h : v.toNat ≤ 2139095040) : v &&& 0x7fffffff ≤ 0x7f800000 := by
  rw [UInt32.le_iff_toNat_le, UInt32.toNat_and]
  exact Nat.le_trans Nat.and_le_left h
theorem msk64 {v : UInt64} (h : v.toNat ≤ 9218868437227405312) : v &&& 0x7fffffffffffffff ≤ 0x7ff0000000000000 := by
  rw [UInt64.le_iff_toNat_le, UInt64.toNat_and]
  exact Nat.le_trans Nat.and_le_left h
theorem f2d_v {v : UInt32} (h : v.toNat ≤ 2139095040) : (FP.f2d v).toNat ≤ 9218868437227405312 := by
  obtain ⟨h1, h2, h3, h4, h5, h6, h7⟩ := F32
  obtain ⟨g1, g2, g3, g4, g5, g6, g7⟩ := F64
  have hd : (∃ c q, FP.Core.decode FP.Core.b32 v.toNat = .fin false c q) ∨ FP.Core.decode FP.Core.b32 v.toNat = .inf false := by
    by_cases q : v.toNat = 2139095040
    · right
      rw [q]
      decide +kernel
    · obtain ⟨c, q, e, -⟩ := fe_dec h2 (by omega) (v := v.toNat) (by omega)
      exact Or.inl ⟨c, q, e⟩
  have hn : FP.Core.fIsNaN v = false := by
    show decide (FP.Core.decode FP.Core.b32 v.toNat = .nan) = false
    refine decide_eq_false (fun z => ?_)
    rcases hd with ⟨c, q, e⟩ | e
    · rw [e] at z; cases z
    · rw [e] at z; cases z
  unfold FP.f2d
  rw [hn]
  show (UInt64.ofNat (FP.Core.encode FP.Core.b64 (FP.Core.round FP.Core.b64 (FP.Core.decode FP.Core.b32 v.toNat)))).toNat ≤ _
  rw [UInt64.toNat_ofNat']
  refine Nat.le_trans (Nat.mod_le _ _) ?_
  rcases hd with ⟨c, q, e⟩ | e
  · rw [e, ← g7]
    exact fe_ratio g1 g2 g3 (by omega) c 1 q
  · rw [e, ← g7]
    exact Nat.le_of_eq fe_inf

