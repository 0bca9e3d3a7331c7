/-! NUMBERS AND BITS; further steps -/
def cnt (P : Nat → Bool) : Nat → Nat
  | 0 => 0
  | n + 1 => cnt P n + (if P n = true then 1 else 0)
theorem cnt_le (P : Nat → Bool) (n : Nat) : cnt P n ≤ n := by
  induction n with
  | zero => exact Nat.le_refl 0
  | succ n ih =>
    show cnt P n + (if P n = true then 1 else 0) ≤ n + 1
    split <;> omega
theorem cnt_congr {P Q : Nat → Bool} {n : Nat} (h : ∀ i, i < n → P i = Q i) : cnt P n = cnt Q n := by
  induction n with
  | zero => rfl
  | succ n ih =>
    show cnt P n + (if P n = true then 1 else 0) = cnt Q n + (if Q n = true then 1 else 0)
    rw [ih (fun i hi => h i (by omega)), h n (by omega)]
theorem cnt_s (P : Nat → Bool) (n : Nat) : cnt P (n + 1) = cnt P n + (if P n = true then 1 else 0) := rfl
theorem cnt_t {P : Nat → Bool} {n : Nat} (h : P n = true) : cnt P (n + 1) = cnt P n + 1 := by rw [cnt_s, if_pos h]
theorem cnt_f {P : Nat → Bool} {n : Nat} (h : P n = false) : cnt P (n + 1) = cnt P n := by rw [cnt_s, h]; rfl
theorem cnt_zero {P : Nat → Bool} {n : Nat} (h : ∀ i, i < n → P i = false) : cnt P n = 0 := by
  induction n with
  | zero => rfl
  | succ n ih => rw [cnt_f (h n (by omega))]; exact ih (fun i hi => h i (by omega))
theorem cnt_mono {P : Nat → Bool} {a b : Nat} (h : a ≤ b) : cnt P a ≤ cnt P b := by
  induction h with
  | refl => exact Nat.le_refl _
  | step _ ih => rw [cnt_s]; omega
theorem cnt_pos {P : Nat → Bool} {n i : Nat} (hi : i < n) (h : P i = true) : 0 < cnt P n := by
  have := cnt_mono (P := P) (show i + 1 ≤ n from hi)
  rw [cnt_t h] at this
  omega
theorem cnt_split (P : Nat → Bool) (a b : Nat) : cnt P (a + b) = cnt P a + cnt (fun i => P (a + i)) b := by
  induction b with
  | zero => rfl
  | succ b ih =>
    show cnt P (a + b + 1) = _
    rw [cnt_s, cnt_s, ih]
    omega
theorem cnt_and_le {P Q : Nat → Bool} {n : Nat} (h : ∀ i, i < n → P i = true → Q i = true) : cnt P n ≤ cnt Q n := by
  induction n with
  | zero => exact Nat.le_refl 0
  | succ n ih =>
    have := ih (fun i hi => h i (by omega))
    rw [cnt_s, cnt_s]
    by_cases q : P n = true
    · rw [if_pos q, if_pos (h n (by omega) q)]; omega
    · rw [if_neg q]; split <;> omega
/-- sums -/
def sm (f : Nat → Int) : Nat → Int
  | 0 => 0
  | n + 1 => sm f n + f n
theorem sm_s (f : Nat → Int) (n : Nat) : sm f (n + 1) = sm f n + f n := rfl
theorem sm_congr {f g : Nat → Int} {n : Nat} (h : ∀ i, i < n → f i = g i) : sm f n = sm g n := by
  induction n with
  | zero => rfl
  | succ n ih => rw [sm_s, sm_s, ih (fun i hi => h i (by omega)), h n (by omega)]
theorem sm_bd {f : Nat → Int} {n : Nat} {c : Int} (h : ∀ i, i < n → 0 ≤ f i ∧ f i ≤ c) : 0 ≤ sm f n ∧ sm f n ≤ c * n := by
  induction n with
  | zero => exact ⟨Int.le_refl 0, by show (0 : Int) ≤ c * 0; omega⟩
  | succ n ih =>
    have h1 := ih (fun i hi => h i (by omega))
    have h2 := h n (by omega)
    have e : c * ((n + 1 : Nat) : Int) = c * n + c := by rw [Int.natCast_succ, Int.mul_add, Int.mul_one]
    rw [sm_s, e]
    omega
theorem sm_add (f g : Nat → Int) (n : Nat) : sm (fun i => f i + g i) n = sm f n + sm g n := by
  induction n with
  | zero => rfl
  | succ n ih => rw [sm_s, sm_s, sm_s, ih]; omega
theorem sm_zero {f : Nat → Int} {n : Nat} (h : ∀ i, i < n → f i = 0) : sm f n = 0 := by
  induction n with
  | zero => rfl
  | succ n ih => rw [sm_s, ih (fun i hi => h i (by omega)), h n (by omega)]; rfl
theorem sm_swap (f : Nat → Nat → Int) (a b : Nat) : sm (fun i => sm (f i) b) a = sm (fun j => sm (fun i => f i j) a) b := by
  induction a with
  | zero => exact (sm_zero (fun _ _ => rfl)).symm
  | succ a ih => rw [sm_s, ih]; exact (sm_add _ _ b).symm
theorem cnt_sm (P : Nat → Bool) (n : Nat) : (cnt P n : Int) = sm (fun i => if P i = true then 1 else 0) n := by
  induction n with
  | zero => rfl
  | succ n ih =>
    rw [cnt_s, sm_s, ← ih]
    split <;> omega
/-! bits of the longs -/
def tL (x : Int64) (k : Nat) : Bool := x.toBitVec.getLsbD k
theorem tL_big {x : Int64} {k : Nat} (h : 64 ≤ k) : tL x k = false := BitVec.getLsbD_of_ge _ _ h
theorem tL_ext {x y : Int64} (h : ∀ k, k < 64 → tL x k = tL y k) : x = y := Int64.toBitVec_inj.mp (BitVec.eq_of_getLsbD_eq (fun i hi => h i hi))
theorem tL_and (x y : Int64) (k : Nat) : tL (x &&& y) k = (tL x k && tL y k) := by unfold tL; rw [Int64.toBitVec_and, BitVec.getLsbD_and]
theorem tL_or (x y : Int64) (k : Nat) : tL (x ||| y) k = (tL x k || tL y k) := by unfold tL; rw [Int64.toBitVec_or, BitVec.getLsbD_or]
theorem tL_xor (x y : Int64) (k : Nat) : tL (x ^^^ y) k = (tL x k ^^ tL y k) := by unfold tL; rw [Int64.toBitVec_xor, BitVec.getLsbD_xor]
theorem tL_0 (k : Nat) : tL 0 k = false := BitVec.getLsbD_zero
theorem tL_m1 : ∀ k, k < 64 → tL (-1) k = true := by decide +kernel
theorem tL_not {x : Int64} {k : Nat} (h : k < 64) : tL (x ^^^ (-1)) k = !tL x k := by rw [tL_xor, tL_m1 k h, Bool.xor_true]
theorem tL_1 (k : Nat) : tL 1 k = decide (k = 0) := by
  rcases Nat.lt_or_ge k 64 with h | h
  · exact (by decide +kernel : ∀ k, k < 64 → tL 1 k = decide (k = 0)) k h
  · rw [tL_big h, decide_eq_false (by omega)]
theorem tL_s64 : ∀ n : Nat, n < 64 → (((Int32.ofInt (n : Int)).toInt64 &&& 63).toBitVec.smod 64).toNat = n := by decide +kernel
theorem tL_u64 : ∀ n : Nat, n < 64 → (((Int32.ofInt (n : Int)).toInt64.toUInt64 &&& Int64.toUInt64 63).toBitVec % 64).toNat = n := by decide +kernel
theorem tL_shl {x : Int64} {y : Int} {k : Nat} (hy : 0 ≤ y ∧ y < 64) : tL (lShl x y) k = (decide (k < 64) && (decide (y.toNat ≤ k) && tL x (k - y.toNat))) := by
  obtain ⟨n, rfl⟩ : ∃ n : Nat, y = n := ⟨y.toNat, by omega⟩
  unfold lShl tL
  rw [Int64.toBitVec_shiftLeft]
  show (x.toBitVec <<< (((Int32.ofInt (n : Int)).toInt64 &&& 63).toBitVec.smod 64).toNat).getLsbD k = _
  rw [tL_s64 n (by omega), BitVec.getLsbD_shiftLeft, Int.toNat_natCast]
  by_cases h : k < 64
  · by_cases h2 : k < n
    · simp [h2, Nat.not_le.mpr h2]
    · simp [h, h2, Nat.not_lt.mp h2]
  · simp [h]
theorem tL_ush {x : Int64} {y : Int} {k : Nat} (hy : 0 ≤ y ∧ y < 64) : tL (lUsh x y) k = tL x (y.toNat + k) := by
  obtain ⟨n, rfl⟩ : ∃ n : Nat, y = n := ⟨y.toNat, by omega⟩
  unfold lUsh tL
  show (x.toUInt64 >>> ((Int32.ofInt (n : Int)).toInt64.toUInt64 &&& Int64.toUInt64 63)).toBitVec.getLsbD k = x.toUInt64.toBitVec.getLsbD _
  rw [UInt64.toBitVec_shiftRight]
  show (x.toUInt64.toBitVec >>> (((Int32.ofInt (n : Int)).toInt64.toUInt64 &&& Int64.toUInt64 63).toBitVec % 64).toNat).getLsbD k = _
  rw [tL_u64 n (by omega), BitVec.getLsbD_ushiftRight, Int.toNat_natCast]
/-- is the bit there, as the code asks -/
theorem tL_ask {x : Int64} {y : Int} (hy : 0 ≤ y ∧ y < 64) : lUsh x y &&& (1 : Int64) = 0 ↔ tL x y.toNat = false := by
  constructor
  · intro h
    have := congrArg (fun z => tL z 0) h
    simp only [tL_and, tL_ush hy, tL_1, tL_0, Nat.add_zero, decide_true, Bool.and_true] at this
    exact this
  · intro h
    apply tL_ext
    intro k hk
    rw [tL_and, tL_ush hy, tL_1, tL_0]
    by_cases q : k = 0
    · subst q; rw [Nat.add_zero, h]; rfl
    · rw [decide_eq_false q, Bool.and_false]
theorem tL_zero {x : Int64} : x = 0 ↔ ∀ k, k < 64 → tL x k = false := ⟨fun h k _ => by rw [h, tL_0], fun h => tL_ext (fun k hk => by rw [h k hk, tL_0])⟩
/-! bits of the ints -/
def tI (x : Int) (k : Nat) : Bool := (Int32.ofInt x).toBitVec.getLsbD k
theorem tI_big {x : Int} {k : Nat} (h : 32 ≤ k) : tI x k = false := BitVec.getLsbD_of_ge _ _ h
theorem tI_ext {x y : Int} (hx : bd x) (hy : bd y) (h : ∀ k, k < 32 → tI x k = tI y k) : x = y := (iv_eq hx hy).mp (Int32.toBitVec_inj.mp (BitVec.eq_of_getLsbD_eq (fun i hi => h i hi)))
theorem tI_and (x y : Int) (k : Nat) : tI (iAnd x y) k = (tI x k && tI y k) := by unfold tI iAnd; rw [Int32.ofInt_toInt, Int32.toBitVec_and, BitVec.getLsbD_and]
theorem tI_or (x y : Int) (k : Nat) : tI (iOr x y) k = (tI x k || tI y k) := by unfold tI iOr; rw [Int32.ofInt_toInt, Int32.toBitVec_or, BitVec.getLsbD_or]
theorem tI_xor (x y : Int) (k : Nat) : tI (iXor x y) k = (tI x k ^^ tI y k) := by unfold tI iXor; rw [Int32.ofInt_toInt, Int32.toBitVec_xor, BitVec.getLsbD_xor]
theorem tI_0 (k : Nat) : tI 0 k = false := by
  rcases Nat.lt_or_ge k 32 with h | h
  · exact (by decide +kernel : ∀ k, k < 32 → tI 0 k = false) k h
  · exact tI_big h
theorem tI_m1 : ∀ k, k < 32 → tI (-1) k = true := by decide +kernel
theorem tI_not {x : Int} {k : Nat} (h : k < 32) : tI (iXor x (-1)) k = !tI x k := by rw [tI_xor, tI_m1 k h, Bool.xor_true]
theorem tI_1 (k : Nat) : tI 1 k = decide (k = 0) := by
  rcases Nat.lt_or_ge k 32 with h | h
  · exact (by decide +kernel : ∀ k, k < 32 → tI 1 k = decide (k = 0)) k h
  · rw [tI_big h, decide_eq_false (by omega)]
theorem tI_s32 : ∀ n : Nat, n < 32 → ((Int32.ofInt (n : Int) &&& 31).toBitVec.smod 32).toNat = n := by decide +kernel
theorem tI_shl {x y : Int} {k : Nat} (hy : 0 ≤ y ∧ y < 32) : tI (iShl x y) k = (decide (k < 32) && (decide (y.toNat ≤ k) && tI x (k - y.toNat))) := by
  obtain ⟨n, rfl⟩ : ∃ n : Nat, y = n := ⟨y.toNat, by omega⟩
  unfold iShl tI
  rw [Int32.ofInt_toInt, Int32.toBitVec_shiftLeft]
  show ((Int32.ofInt x).toBitVec <<< ((Int32.ofInt (n : Int) &&& 31).toBitVec.smod 32).toNat).getLsbD k = _
  rw [tI_s32 n (by omega), BitVec.getLsbD_shiftLeft, Int.toNat_natCast]
  by_cases h : k < 32
  · by_cases h2 : k < n
    · simp [h2, Nat.not_le.mpr h2]
    · simp [h, h2, Nat.not_lt.mp h2]
  · simp [h]
theorem tI_bit {y : Int} {k : Nat} (hy : 0 ≤ y ∧ y < 32) (hk : k < 32) : tI (iShl 1 y) k = decide (k = y.toNat) := by
  rw [tI_shl hy, tI_1, decide_eq_true hk, Bool.true_and]
  by_cases h : k = y.toNat
  · subst h
    rw [decide_eq_true (Nat.le_refl _), decide_eq_true (Nat.sub_self _), decide_eq_true rfl]; rfl
  · rw [decide_eq_false h]
    by_cases h2 : y.toNat ≤ k
    · rw [decide_eq_true h2, decide_eq_false (by omega)]; rfl
    · rw [decide_eq_false h2]; rfl
theorem tL_bit {y : Int} {k : Nat} (hy : 0 ≤ y ∧ y < 64) (hk : k < 64) : tL (lShl 1 y) k = decide (k = y.toNat) := by
  rw [tL_shl hy, tL_1, decide_eq_true hk, Bool.true_and]
  by_cases h : k = y.toNat
  · subst h
    rw [decide_eq_true (Nat.le_refl _), decide_eq_true (Nat.sub_self _), decide_eq_true rfl]; rfl
  · rw [decide_eq_false h]
    by_cases h2 : y.toNat ≤ k
    · rw [decide_eq_true h2, decide_eq_false (by omega)]; rfl
    · rw [decide_eq_false h2]; rfl
theorem tI_shr {x y : Int} {k : Nat} (hy : 0 ≤ y ∧ y < 32) (hk : k < 32) : tI (iShr x y) k = if y.toNat + k < 32 then tI x (y.toNat + k) else tI x 31 := by
  obtain ⟨n, rfl⟩ : ∃ n : Nat, y = n := ⟨y.toNat, by omega⟩
  unfold iShr tI
  rw [Int32.ofInt_toInt, Int32.toBitVec_shiftRight]
  show ((Int32.ofInt x).toBitVec.sshiftRight ((Int32.ofInt (n : Int) &&& 31).toBitVec.smod 32).toNat).getLsbD k = _
  rw [tI_s32 n (by omega), BitVec.getLsbD_sshiftRight, BitVec.msb_eq_getLsbD_last, Int.toNat_natCast]
  simp [hk]
/-- the bit as a number -/
theorem tI_one {x y : Int} (hy : 0 ≤ y ∧ y < 32) : iAnd (iShr x y) 1 = if tI x y.toNat = true then 1 else 0 := by
  apply tI_ext (bd_toInt _) (by split <;> exact ⟨by decide, by decide⟩)
  intro k hk
  show tI (iAnd (iShr x y) 1) k = _
  rw [tI_and, tI_shr hy hk, tI_1]
  by_cases q : k = 0
  · subst q
    rw [Nat.add_zero, if_pos (by omega), decide_eq_true rfl, Bool.and_true]
    by_cases h : tI x y.toNat = true
    · rw [if_pos h, h]; decide
    · rw [if_neg h, tI_0]; exact Bool.eq_false_iff.mpr h
  · rw [decide_eq_false q, Bool.and_false]
    split
    · rw [tI_1, decide_eq_false q]
    · rw [tI_0]
theorem tI_ask {x y : Int} (hy : 0 ≤ y ∧ y < 32) : iAnd (iShr x y) 1 = 1 ↔ tI x y.toNat = true := by
  rw [tI_one hy]
  by_cases h : tI x y.toNat = true
  · rw [if_pos h]; exact ⟨fun _ => h, fun _ => rfl⟩
  · rw [if_neg h]; exact ⟨fun q => absurd q (by decide), fun q => absurd q h⟩
theorem i2L_toInt {z : Int} (h : bd z) : (i2L z).toInt = z := by
  unfold i2L
  rw [Int32.toInt_toInt64, toInt_iv h]
theorem lCmp_lt {x y : Int64} : lCmp x y < 0 ↔ x.toInt < y.toInt := by
  unfold lCmp lg_cmp
  by_cases h1 : x > y
  · rw [if_pos h1]
    have : y.toInt < x.toInt := Int64.lt_iff_toInt_lt.mp h1
    exact ⟨fun h => absurd h (by decide), fun h => by omega⟩
  · rw [if_neg h1]
    have h3 : ¬ y.toInt < x.toInt := fun q => h1 (Int64.lt_iff_toInt_lt.mpr q)
    by_cases h2 : x = y
    · rw [if_pos h2]
      exact ⟨fun h => absurd h (by decide), fun h => by rw [h2] at h; omega⟩
    · rw [if_neg h2]
      refine ⟨fun _ => ?_, fun _ => by decide⟩
      have : x.toInt ≠ y.toInt := fun q => h2 (Int64.toInt_inj.mp q)
      omega
theorem lCmp_gt {x y : Int64} : 0 < lCmp x y ↔ y.toInt < x.toInt := by
  unfold lCmp lg_cmp
  by_cases h1 : x > y
  · rw [if_pos h1]
    exact ⟨fun _ => Int64.lt_iff_toInt_lt.mp h1, fun _ => by decide⟩
  · rw [if_neg h1]
    have h3 : ¬ y.toInt < x.toInt := fun q => h1 (Int64.lt_iff_toInt_lt.mpr q)
    by_cases h2 : x = y
    · rw [if_pos h2]
      exact ⟨fun h => absurd h (by decide), fun h => absurd h h3⟩
    · rw [if_neg h2]
      exact ⟨fun h => absurd h (by decide), fun h => absurd h h3⟩
/-! cells -/
theorem sI_ne {w : PW} {a k : Nat} {z : Int} {c : Nat} (h : c ≠ a) : (sI w a k z).2.2 c = w.2.2 c := by
  unfold sI
  split
  · rw [pup_at, if_neg h]
  · rw [pup_at, if_neg h]
  · rfl
theorem sL_ne {w : PW} {a k : Nat} {z : Int64} {c : Nat} (h : c ≠ a) : (sL w a k z).2.2 c = w.2.2 c := by
  unfold sL
  split
  · rw [pup_at, if_neg h]
  · rfl
theorem sCp_ne {w : PW} {a0 a n c : Nat} (h : c ≠ a) : (sCp w a0 a n).2.2 c = w.2.2 c := by
  unfold sCp
  split
  · rw [pup_at, if_neg h]
  · rw [pup_at, if_neg h]
  · rfl
theorem gI_cell {w w' : PW} {a : Nat} (h : w'.2.2 a = w.2.2 a) (k : Nat) : gI w' a k = gI w a k := by unfold gI; rw [h]
theorem gL_cell {w w' : PW} {a : Nat} (h : w'.2.2 a = w.2.2 a) (k : Nat) : gL w' a k = gL w a k := by unfold gL; rw [h]
theorem bx_ne {b c : Nat} (hb : bx b) (hc : bx c) (h : b ≠ c) : b + 13 ≤ c ∨ c + 13 ≤ b :=
  (by decide +kernel : ∀ b ∈ bxs, ∀ c ∈ bxs, b ≠ c → b + 13 ≤ c ∨ c + 13 ≤ b) b hb c hc h
/-- where boxes may lie -/
theorem bx_at {b : Nat} (hb : bx b) : (1 ≤ b ∧ b + 13 ≤ 27) ∨ (29 ≤ b ∧ b + 13 ≤ 133) ∨ (143 ≤ b ∧ b + 13 ≤ 169) :=
  bx_all (P := fun b => (1 ≤ b ∧ b + 13 ≤ 27) ∨ (29 ≤ b ∧ b + 13 ≤ 133) ∨ (143 ≤ b ∧ b + 13 ≤ 169)) (by decide +kernel) hb
theorem bxH {z : Int} (h : 0 ≤ z ∧ z < 8) : bx (29 + 13 * z.toNat) := by
  have : z.toNat < 8 := by omega
  exact (by decide +kernel : ∀ k, k < 8 → bxs.contains (29 + 13 * k) = true) z.toNat this |> bxc _
theorem bxS {z : Int} (h : 0 ≤ z ∧ z < 2) : bx (143 + 13 * z.toNat) := by
  have : z.toNat < 2 := by omega
  exact (by decide +kernel : ∀ k, k < 2 → bxs.contains (143 + 13 * k) = true) z.toNat this |> bxc _
theorem qlH {z : Int} (h : 0 ≤ z ∧ z < 8) : [some 29, some 42, some 55, some 68, some 81, some 94, some 107, some 120][z.toNat]? = some (some (29 + 13 * z.toNat)) := by
  have : z.toNat < 8 := by omega
  exact (by decide +kernel : ∀ k, k < 8 → [some 29, some 42, some 55, some 68, some 81, some 94, some 107, some 120][k]? = some (some (29 + 13 * k))) z.toNat this
theorem qlS {z : Int} (h : 0 ≤ z ∧ z < 2) : [some 143, some 156][z.toNat]? = some (some (143 + 13 * z.toNat)) := by
  have : z.toNat < 2 := by omega
  exact (by decide +kernel : ∀ k, k < 2 → [some 143, some 156][k]? = some (some (143 + 13 * k))) z.toNat this
/-! further steps -/
section W24
variable {M pc np : Nat} {cc : ByteArray} {i : Instr} {L L' : PL} {S S' : List Value} {w w' : PW} {ln : Nat} {Q : PO → PW → Prop} {idx : Nat} {rest : List Value}
theorem w_ldcwI {z : Int} (hB : mB M = cc) (hd : decode cc pc = .ok (.ldc_w idx, 3)) (hp : plk idx (kC (mC M)) = some (iv z)) (hn : np = pc + 3) (h : pX M np L (iv z :: S) w Q) : pX M pc L S w Q := by
  refine (pX_l hB hd rfl (ln := 3) (w' := w) (S' := iv z :: S) ?_ hn Q).mpr h
  unfold pld
  dsimp only
  rw [hp]
theorem w_lsw {x d off : Int} {tgt : Nat} {ps : Array (Int × Int)} (hB : mB M = cc) (hd : decode cc pc = .ok (.lookupswitch d ps, ln)) (ht : (pc : Int) + off = (tgt : Int)) (hp : phi M tgt ≤ phi M pc) (hx : bd x) (hso : (ps.toList.zip (ps.toList.drop 1)).all (fun (a, next) => a.1 < next.1) = true) (ho : Op.lookupswitch.offset ps.toList d x = off) (h : pX M tgt L S w Q) : pX M pc L (iv x :: S) w Q := by
  refine (pX_j hB hd rfl (l0 := 0) (off := off) (S' := S) ?_ (Or.inr rfl) ht hp Q).mpr h
  show (if (ps.toList.zip (ps.toList.drop 1)).all (fun (a, next) => a.1 < next.1) = true then some (true, Op.lookupswitch.offset ps.toList d (Int32.ofInt x).toInt, 0, S) else none) = _
  rw [if_pos hso, toInt_iv hx, ho]
theorem lsd2 {x a b o p d : Int} (h0 : ¬ x = a) (h1 : ¬ x = b) : Op.lookupswitch.offset [(a, o), (b, p)] d x = d := by
  rw [Op.lookupswitch.offset_cons, if_neg (fun q => h0 q.symm), Op.lookupswitch.offset_cons, if_neg (fun q => h1 q.symm), Op.lookupswitch.offset_nil]
def kH (k : PO → PW → Prop) (f : Nat → PW → Prop) : PO → PW → Prop := fun o w => match o with
  | .inr E => f E w
  | .inl v => k (.inl v) w
theorem hK_H {K : PO → PW → Prop} {f : Nat → PW → Prop} (h : ∀ o w', K o w' → pK M pc np L rest Q o w') (hf : ∀ E w', f E w' → pK M pc np L rest Q (.inr E) w') : ∀ o w', kH K f o w' → pK M pc np L rest Q o w' := by
  intro o w' hk
  match o, hk with
  | .inl v, hk => exact h _ _ hk
  | .inr E, hk => exact hf _ _ hk
end W24
