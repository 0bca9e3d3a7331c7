/-! LOOPS over their arguments alone -/
/-- the first place below n that has P; n, if there is none -/
def fnd (P : Nat → Bool) : Nat → Nat
  | 0 => 0
  | n + 1 => if fnd P n < n then fnd P n else if P n = true then n else n + 1
theorem fnd_spec (P : Nat → Bool) (n : Nat) : fnd P n ≤ n ∧ (∀ j, j < fnd P n → P j = false) ∧ (fnd P n < n → P (fnd P n) = true) := by
  induction n with
  | zero => exact ⟨Nat.le_refl 0, fun j h => absurd h (Nat.not_lt_zero j), fun h => absurd h (Nat.lt_irrefl 0)⟩
  | succ n ih =>
    obtain ⟨h1, h2, h3⟩ := ih
    by_cases q : fnd P n < n
    · rw [show fnd P (n + 1) = fnd P n from if_pos q]
      exact ⟨by omega, h2, fun _ => h3 q⟩
    · have e : fnd P n = n := by omega
      rw [e] at h2
      by_cases q2 : P n = true
      · rw [show fnd P (n + 1) = n from (if_neg q).trans (if_pos q2)]
        exact ⟨by omega, h2, fun _ => q2⟩
      · rw [show fnd P (n + 1) = n + 1 from (if_neg q).trans (if_neg q2)]
        refine ⟨Nat.le_refl _, fun j hj => ?_, fun h => absurd h (Nat.lt_irrefl _)⟩
        by_cases q3 : j = n
        · rw [q3]; exact Bool.eq_false_iff.mpr q2
        · exact h2 j (by omega)
theorem fnd_eq {P : Nat → Bool} {n i : Nat} (h : ∀ j, j < i → P j = false) (hi : i < n → P i = true) (hn : i ≤ n) : fnd P n = i := by
  obtain ⟨h1, h2, h3⟩ := fnd_spec P n
  by_cases q : fnd P n < i
  · have := h3 (by omega)
    rw [h _ q] at this
    cases this
  · by_cases q2 : i < fnd P n
    · have := hi (by omega)
      rw [h2 _ q2] at this
      cases this
    · omega
theorem fnd_congr {P Q : Nat → Bool} {n : Nat} (h : ∀ i, i < n → P i = Q i) : fnd P n = fnd Q n := by
  obtain ⟨h1, h2, h3⟩ := fnd_spec Q n
  exact fnd_eq (fun j hj => by rw [h j (by omega)]; exact h2 j hj) (fun q => by rw [h _ q]; exact h3 q) h1
/-- the place of the set that has so many before it; -1, if there is none -/
def sel (P : Nat → Bool) (x : Int) (n : Nat) : Int := if fnd (fun i => P i && decide ((cnt P i : Int) = x)) n < n then (fnd (fun i => P i && decide ((cnt P i : Int) = x)) n : Int) else -1
theorem sel_at {P : Nat → Bool} {x : Int} {n i : Nat} (hi : i < n) (hP : P i = true) (hc : (cnt P i : Int) = x) : sel P x n = i := by
  have e : fnd (fun i => P i && decide ((cnt P i : Int) = x)) n = i := by
    refine fnd_eq (fun j hj => ?_) (fun _ => ?_) (by omega)
    · by_cases q : P j = true
      · have h1 := cnt_mono (P := P) (show j + 1 ≤ i from hj)
        rw [cnt_t q] at h1
        rw [decide_eq_false (by omega), Bool.and_false]
      · rw [Bool.eq_false_iff.mpr q, Bool.false_and]
    · rw [hP, decide_eq_true hc]; rfl
  unfold sel
  rw [e, if_pos hi]
theorem sel_no {P : Nat → Bool} {x : Int} {n : Nat} (h : x < 0 ∨ (cnt P n : Int) ≤ x) : sel P x n = -1 := by
  have e : fnd (fun i => P i && decide ((cnt P i : Int) = x)) n = n := by
    refine fnd_eq (fun j hj => ?_) (fun q => absurd q (Nat.lt_irrefl _)) (Nat.le_refl _)
    by_cases q : P j = true
    · have h1 := cnt_mono (P := P) (show j + 1 ≤ n from hj)
      rw [cnt_t q] at h1
      rw [decide_eq_false (by omega), Bool.and_false]
    · rw [Bool.eq_false_iff.mpr q, Bool.false_and]
  unfold sel
  rw [e, if_neg (Nat.lt_irrefl _)]
theorem sel_congr {P Q : Nat → Bool} {x : Int} {n : Nat} (h : ∀ i, i < n → P i = Q i) : sel P x n = sel Q x n := by
  have e : fnd (fun i => P i && decide ((cnt P i : Int) = x)) n = fnd (fun i => Q i && decide ((cnt Q i : Int) = x)) n := fnd_congr (fun i hi => by rw [h i hi, cnt_congr (fun j hj => h j (by omega))])
  unfold sel
  rw [e]
theorem sel_bd {P : Nat → Bool} {x : Int} {n : Nat} : -1 ≤ sel P x n ∧ sel P x n < n := by
  unfold sel
  split <;> omega
def lWay (x : Int64) (a s : Int) : Int := (fnd (fun i => tL x (wrp (a + (i + 1 : Nat)) s).toNat) (s - 1).toNat : Int) + 1
def lPrf (x y : Int64) (s : Int) (i : Nat) : Int := (cnt (tL (lMov x i s &&& y)) 64 : Int) + (if 0 < i then (cnt (tL (lMov y i s &&& x)) 64 : Int) else 0)
def lPrs (x y : Int64) (g s : Int) : Int := sm (lPrf x y s) g.toNat
def lMirN (x : Int64) (s : Int) : Nat → Int64
  | 0 => 0
  | n + 1 => if tL x n = true then lMirN x s n ||| lShl 1 (s - 1 - n) else lMirN x s n
def lMir (x : Int64) (s : Int) : Int64 := lMirN x s s.toNat
theorem bd_c64 (P : Nat → Bool) : bd (cnt P 64 : Int) := by have := cnt_le P 64; exact ⟨by omega, by omega⟩
theorem bd_c32 (P : Nat → Bool) : bd (cnt P 32 : Int) := by have := cnt_le P 32; exact ⟨by omega, by omega⟩
theorem bd_c12 (P : Nat → Bool) : bd (cnt P 12 : Int) := by have := cnt_le P 12; exact ⟨by omega, by omega⟩
theorem lPrf_bd (x y : Int64) (s : Int) (i : Nat) : 0 ≤ lPrf x y s i ∧ lPrf x y s i ≤ 128 := by
  have h1 := cnt_le (tL (lMov x i s &&& y)) 64
  have h2 := cnt_le (tL (lMov y i s &&& x)) 64
  unfold lPrf
  split <;> omega
theorem lPrs_bd (x y : Int64) (g s : Int) (h : g ≤ 3) : 0 ≤ lPrs x y g s ∧ lPrs x y g s ≤ 384 := by
  have h1 := sm_bd (f := lPrf x y s) (n := g.toNat) (fun i _ => lPrf_bd x y s i)
  unfold lPrs
  omega

def nL (x : Int64) : Nat := x.toBitVec.toNat
theorem nL_lt (x : Int64) : nL x < 2 ^ 64 := x.toBitVec.isLt
theorem nL_and (x y : Int64) : nL (x &&& y) = nL x &&& nL y := by unfold nL; rw [Int64.toBitVec_and, BitVec.toNat_and]
theorem nL_add {x y : Int64} (h : nL x + nL y < 2 ^ 64) : nL (x + y) = nL x + nL y := by
  unfold nL at h ⊢
  rw [Int64.toBitVec_add, BitVec.toNat_add, Nat.mod_eq_of_lt h]
theorem nL_sub {x y : Int64} (h : nL y ≤ nL x) : nL (x - y) = nL x - nL y := by
  unfold nL at h ⊢
  rw [Int64.toBitVec_sub]
  exact BitVec.toNat_sub_of_le h
theorem nL_ush {x : Int64} {k : Nat} (hk : k < 64) : nL (lUsh x k) = nL x / 2 ^ k := by
  apply Nat.eq_of_testBit_eq
  intro i
  rw [Nat.testBit_div_two_pow]
  show tL (lUsh x k) i = _
  rw [tL_ush (by omega), Int.toNat_natCast]
  show (nL x).testBit (k + i) = _
  rw [Nat.add_comm]
theorem tI_nat {n k : Nat} (hk : k < 32) : tI (n : Int) k = n.testBit k := by
  unfold tI
  rw [Int32.toBitVec_ofInt]
  show (BitVec.ofInt 32 (n : Int)).getLsbD k = _
  rw [show BitVec.ofInt 32 (n : Int) = BitVec.ofNat 32 n from BitVec.ofInt_natCast 32 n, BitVec.getLsbD_ofNat, decide_eq_true hk, Bool.true_and]
theorem tI_l2I {y : Int64} {k : Nat} (hk : k < 32) : tI (l2I y) k = tL y k := by
  unfold tI l2I tL
  rw [Int32.ofInt_toInt, Int64.toBitVec_toInt32, BitVec.getLsbD_signExtend, decide_eq_true hk, Bool.true_and, if_pos (by omega)]
theorem l2I_127 (y : Int64) : iAnd (l2I y) 127 = ((nL y % 128 : Nat) : Int) := by
  have hl : nL y % 128 < 128 := Nat.mod_lt _ (by decide)
  apply tI_ext (bd_toInt _) ⟨by omega, by omega⟩
  intro k hk
  show tI (iAnd (l2I y) 127) k = _
  rw [tI_and, tI_l2I hk, tI_nat hk, show (127 : Int) = ((127 : Nat) : Int) from rfl, tI_nat hk, show (128 : Nat) = 2 ^ 7 from rfl, Nat.testBit_mod_two_pow, show (127 : Nat) = 2 ^ 7 - 1 from rfl, Nat.testBit_two_pow_sub_one, Bool.and_comm]
  rfl
def f87 (x : Int) : Int := x - iAnd (iUsh x 1) 1431655765
def g87 (x : Int) : Int := iAnd x 858993459 + iAnd (iUsh x 2) 858993459
def h87 (x : Int) : Int := iAnd (x + iUsh x 4) 252645135
def j87 (x : Int) : Int := x + iUsh x 8
def k87 (x : Int) : Int := x + iUsh x 16
def ob87 (x : Int) : Bool := decide (-2147483648 ≤ x) && decide (x < 2147483648)
theorem ob_bd {x : Int} (h : ob87 x = true) : bd x := by
  unfold ob87 at h
  rw [Bool.and_eq_true] at h
  exact ⟨of_decide_eq_true h.1, of_decide_eq_true h.2⟩
def chk87 (n : Nat) : Bool := ob87 (f87 n) && (ob87 (g87 (f87 n)) && (ob87 (h87 (g87 (f87 n))) && (ob87 (j87 (h87 (g87 (f87 n)))) && (ob87 (k87 (j87 (h87 (g87 (f87 n))))) && decide (iAnd (k87 (j87 (h87 (g87 (f87 n))))) 63 = (cnt (fun i => n.testBit i) 12 : Int))))))
theorem chk87_all : ∀ a, a < 64 → ∀ b, b < 64 → chk87 (64 * a + b) = true := by decide +kernel

/-! 57: java/lang/Long.bitCount(J)I -/
theorem b57 : mB 57 = cJ13_bitCount_95d88 := rfl
theorem r57 : mR 57 = (some .int) := rfl
theorem p57 (a b : Nat) : phi 57 a ≤ phi 57 b := Nat.le_refl 0
theorem d57_0 : decode cJ13_bitCount_95d88 0 = .ok (.lload_n 0, 1) := by decide +kernel
theorem d57_1 : decode cJ13_bitCount_95d88 1 = .ok (.lload_n 0, 1) := by decide +kernel
theorem d57_2 : decode cJ13_bitCount_95d88 2 = .ok (.iconst 1, 1) := by decide +kernel
theorem d57_3 : decode cJ13_bitCount_95d88 3 = .ok (.lushr, 1) := by decide +kernel
theorem d57_4 : decode cJ13_bitCount_95d88 4 = .ok (.ldc2_w 314, 3) := by decide +kernel
theorem d57_7 : decode cJ13_bitCount_95d88 7 = .ok (.land, 1) := by decide +kernel
theorem d57_8 : decode cJ13_bitCount_95d88 8 = .ok (.lsub, 1) := by decide +kernel
theorem d57_9 : decode cJ13_bitCount_95d88 9 = .ok (.lstore_n 0, 1) := by decide +kernel
theorem d57_10 : decode cJ13_bitCount_95d88 10 = .ok (.lload_n 0, 1) := by decide +kernel
theorem d57_11 : decode cJ13_bitCount_95d88 11 = .ok (.ldc2_w 316, 3) := by decide +kernel
theorem d57_14 : decode cJ13_bitCount_95d88 14 = .ok (.land, 1) := by decide +kernel
theorem d57_15 : decode cJ13_bitCount_95d88 15 = .ok (.lload_n 0, 1) := by decide +kernel
theorem d57_16 : decode cJ13_bitCount_95d88 16 = .ok (.iconst 2, 1) := by decide +kernel
theorem d57_17 : decode cJ13_bitCount_95d88 17 = .ok (.lushr, 1) := by decide +kernel
theorem d57_18 : decode cJ13_bitCount_95d88 18 = .ok (.ldc2_w 316, 3) := by decide +kernel
theorem d57_21 : decode cJ13_bitCount_95d88 21 = .ok (.land, 1) := by decide +kernel
theorem d57_22 : decode cJ13_bitCount_95d88 22 = .ok (.ladd, 1) := by decide +kernel
theorem d57_23 : decode cJ13_bitCount_95d88 23 = .ok (.lstore_n 0, 1) := by decide +kernel
theorem d57_24 : decode cJ13_bitCount_95d88 24 = .ok (.lload_n 0, 1) := by decide +kernel
theorem d57_25 : decode cJ13_bitCount_95d88 25 = .ok (.lload_n 0, 1) := by decide +kernel
theorem d57_26 : decode cJ13_bitCount_95d88 26 = .ok (.iconst 4, 1) := by decide +kernel
theorem d57_27 : decode cJ13_bitCount_95d88 27 = .ok (.lushr, 1) := by decide +kernel
theorem d57_28 : decode cJ13_bitCount_95d88 28 = .ok (.ladd, 1) := by decide +kernel
theorem d57_29 : decode cJ13_bitCount_95d88 29 = .ok (.ldc2_w 318, 3) := by decide +kernel
theorem d57_32 : decode cJ13_bitCount_95d88 32 = .ok (.land, 1) := by decide +kernel
theorem d57_33 : decode cJ13_bitCount_95d88 33 = .ok (.lstore_n 0, 1) := by decide +kernel
theorem d57_34 : decode cJ13_bitCount_95d88 34 = .ok (.lload_n 0, 1) := by decide +kernel
theorem d57_35 : decode cJ13_bitCount_95d88 35 = .ok (.lload_n 0, 1) := by decide +kernel
theorem d57_36 : decode cJ13_bitCount_95d88 36 = .ok (.bipush 8, 2) := by decide +kernel
theorem d57_38 : decode cJ13_bitCount_95d88 38 = .ok (.lushr, 1) := by decide +kernel
theorem d57_39 : decode cJ13_bitCount_95d88 39 = .ok (.ladd, 1) := by decide +kernel
theorem d57_40 : decode cJ13_bitCount_95d88 40 = .ok (.lstore_n 0, 1) := by decide +kernel
theorem d57_41 : decode cJ13_bitCount_95d88 41 = .ok (.lload_n 0, 1) := by decide +kernel
theorem d57_42 : decode cJ13_bitCount_95d88 42 = .ok (.lload_n 0, 1) := by decide +kernel
theorem d57_43 : decode cJ13_bitCount_95d88 43 = .ok (.bipush 16, 2) := by decide +kernel
theorem d57_45 : decode cJ13_bitCount_95d88 45 = .ok (.lushr, 1) := by decide +kernel
theorem d57_46 : decode cJ13_bitCount_95d88 46 = .ok (.ladd, 1) := by decide +kernel
theorem d57_47 : decode cJ13_bitCount_95d88 47 = .ok (.lstore_n 0, 1) := by decide +kernel
theorem d57_48 : decode cJ13_bitCount_95d88 48 = .ok (.lload_n 0, 1) := by decide +kernel
theorem d57_49 : decode cJ13_bitCount_95d88 49 = .ok (.lload_n 0, 1) := by decide +kernel
theorem d57_50 : decode cJ13_bitCount_95d88 50 = .ok (.bipush 32, 2) := by decide +kernel
theorem d57_52 : decode cJ13_bitCount_95d88 52 = .ok (.lushr, 1) := by decide +kernel
theorem d57_53 : decode cJ13_bitCount_95d88 53 = .ok (.ladd, 1) := by decide +kernel
theorem d57_54 : decode cJ13_bitCount_95d88 54 = .ok (.lstore_n 0, 1) := by decide +kernel
theorem d57_55 : decode cJ13_bitCount_95d88 55 = .ok (.lload_n 0, 1) := by decide +kernel
theorem d57_56 : decode cJ13_bitCount_95d88 56 = .ok (.l2i, 1) := by decide +kernel
theorem d57_57 : decode cJ13_bitCount_95d88 57 = .ok (.bipush 127, 2) := by decide +kernel
theorem d57_59 : decode cJ13_bitCount_95d88 59 = .ok (.iand, 1) := by decide +kernel
theorem d57_60 : decode cJ13_bitCount_95d88 60 = .ok (.ireturn, 1) := by decide +kernel
theorem v57_0 {w : PW} {Q : PO → PW → Prop} {y0 : Int64} (hs : Sh w)  (h : pX 57 10 [some (.long (y0 - ((lUsh y0 1) &&& ((6148914691236517205 : Int64))))), none] [] w Q) : pX 57 0 [some (.long y0), none] [] w Q :=
  w_f b57 d57_0 rfl rfl rfl <| w_f b57 d57_1 rfl rfl rfl <| w_f b57 d57_2 rfl rfl rfl <| w_f b57 d57_3 rfl rfl rfl <| w_ldcL b57 d57_4 rfl rfl <| w_f b57 d57_7 rfl rfl rfl <| w_f b57 d57_8 rfl rfl rfl <| w_f b57 d57_9 rfl rfl rfl <| h
theorem e57 {w : PW} {Q : PO → PW → Prop} {y0 : Int64} (hs : Sh w)  (h : pX 57 10 [some (.long (y0 - ((lUsh y0 1) &&& ((6148914691236517205 : Int64))))), none] [] w Q) : pC 57 [.long y0] w Q :=
  (pC_in (Nat.le_of_ble_eq_true rfl) rfl Q).mpr (v57_0 hs  h)
theorem v57_10 {w : PW} {Q : PO → PW → Prop} {y0 : Int64} (hs : Sh w)  (h : pX 57 24 [some (.long ((y0 &&& ((3689348814741910323 : Int64))) + ((lUsh y0 2) &&& ((3689348814741910323 : Int64))))), none] [] w Q) : pX 57 10 [some (.long y0), none] [] w Q :=
  w_f b57 d57_10 rfl rfl rfl <| w_ldcL b57 d57_11 rfl rfl <| w_f b57 d57_14 rfl rfl rfl <| w_f b57 d57_15 rfl rfl rfl <| w_f b57 d57_16 rfl rfl rfl <| w_f b57 d57_17 rfl rfl rfl <| w_ldcL b57 d57_18 rfl rfl <| w_f b57 d57_21 rfl rfl rfl <| w_f b57 d57_22 rfl rfl rfl <| w_f b57 d57_23 rfl rfl rfl <| h
theorem v57_24 {w : PW} {Q : PO → PW → Prop} {y0 : Int64} (hs : Sh w)  (h : pX 57 34 [some (.long ((y0 + (lUsh y0 4)) &&& ((1085102592571150095 : Int64)))), none] [] w Q) : pX 57 24 [some (.long y0), none] [] w Q :=
  w_f b57 d57_24 rfl rfl rfl <| w_f b57 d57_25 rfl rfl rfl <| w_f b57 d57_26 rfl rfl rfl <| w_f b57 d57_27 rfl rfl rfl <| w_f b57 d57_28 rfl rfl rfl <| w_ldcL b57 d57_29 rfl rfl <| w_f b57 d57_32 rfl rfl rfl <| w_f b57 d57_33 rfl rfl rfl <| h
theorem v57_34 {w : PW} {Q : PO → PW → Prop} {y0 : Int64} (hs : Sh w)  (h : pX 57 41 [some (.long (y0 + (lUsh y0 8))), none] [] w Q) : pX 57 34 [some (.long y0), none] [] w Q :=
  w_f b57 d57_34 rfl rfl rfl <| w_f b57 d57_35 rfl rfl rfl <| w_f b57 d57_36 rfl rfl rfl <| w_f b57 d57_38 rfl rfl rfl <| w_f b57 d57_39 rfl rfl rfl <| w_f b57 d57_40 rfl rfl rfl <| h
theorem v57_41 {w : PW} {Q : PO → PW → Prop} {y0 : Int64} (hs : Sh w)  (h : pX 57 48 [some (.long (y0 + (lUsh y0 16))), none] [] w Q) : pX 57 41 [some (.long y0), none] [] w Q :=
  w_f b57 d57_41 rfl rfl rfl <| w_f b57 d57_42 rfl rfl rfl <| w_f b57 d57_43 rfl rfl rfl <| w_f b57 d57_45 rfl rfl rfl <| w_f b57 d57_46 rfl rfl rfl <| w_f b57 d57_47 rfl rfl rfl <| h
theorem v57_48 {w : PW} {Q : PO → PW → Prop} {y0 : Int64} (hs : Sh w)  (h : pX 57 55 [some (.long (y0 + (lUsh y0 32))), none] [] w Q) : pX 57 48 [some (.long y0), none] [] w Q :=
  w_f b57 d57_48 rfl rfl rfl <| w_f b57 d57_49 rfl rfl rfl <| w_f b57 d57_50 rfl rfl rfl <| w_f b57 d57_52 rfl rfl rfl <| w_f b57 d57_53 rfl rfl rfl <| w_f b57 d57_54 rfl rfl rfl <| h
theorem v57_55 {w : PW} {Q : PO → PW → Prop} {y0 : Int64} (hs : Sh w)  (h : Q (.inl (some (iv (iAnd (l2I y0) 127)))) w) : pX 57 55 [some (.long y0), none] [] w Q :=
  w_f b57 d57_55 rfl rfl rfl <| w_f b57 d57_56 rfl (pf_l2i _) rfl <| w_f b57 d57_57 rfl rfl rfl <| w_f b57 d57_59 rfl (pf_iand (l2I y0) 127) rfl <| w_ri b57 d57_60 r57 h
theorem c57 {w : PW} {Q : PO → PW → Prop} {y0 : Int64} (hs : Sh w) (h : Q (.inl (some (iv (cnt (tL y0) 64 : Int)))) w) : pC 57 [.long y0] w Q := by
  generalize h1 : y0 - (lUsh y0 1 &&& (6148914691236517205 : Int64)) = y1
  generalize h2 : (y1 &&& (3689348814741910323 : Int64)) + (lUsh y1 2 &&& (3689348814741910323 : Int64)) = y2
  generalize h3 : (y2 + lUsh y2 4) &&& (1085102592571150095 : Int64) = y3
  generalize h4 : y3 + lUsh y3 8 = y4
  generalize h5 : y4 + lUsh y4 16 = y5
  generalize h6 : y5 + lUsh y5 32 = y6
  have u : ∀ (x : Int64) (k : Nat), k < 64 → nL (lUsh x k) = nL x / 2 ^ k := fun x k hk => nL_ush hk
  have m5 : nL (6148914691236517205 : Int64) = 6148914691236517205 := by decide +kernel
  have m3 : nL (3689348814741910323 : Int64) = 3689348814741910323 := by decide +kernel
  have m0 : nL (1085102592571150095 : Int64) = 1085102592571150095 := by decide +kernel
  obtain ⟨q1, q2, q3, q4, q5, q6, q7, q8⟩ := pop64 (nL_lt y0) rfl rfl rfl rfl rfl rfl
  have n1 : nL y1 = nL y0 - ((nL y0 / 2) &&& 6148914691236517205) := by
    have e : nL (lUsh y0 1 &&& (6148914691236517205 : Int64)) = (nL y0 / 2) &&& 6148914691236517205 := by rw [nL_and, m5]; exact congrArg (· &&& _) (u y0 1 (by decide))
    rw [← h1, nL_sub (by rw [e]; exact q1), e]
  have n2 : nL y2 = (nL y1 &&& 3689348814741910323) + ((nL y1 / 4) &&& 3689348814741910323) := by
    have e : nL (lUsh y1 2 &&& (3689348814741910323 : Int64)) = (nL y1 / 4) &&& 3689348814741910323 := by rw [nL_and, m3]; exact congrArg (· &&& _) (u y1 2 (by decide))
    have e2 : nL (y1 &&& (3689348814741910323 : Int64)) = nL y1 &&& 3689348814741910323 := by rw [nL_and, m3]
    rw [← h2, nL_add (by rw [e, e2, n1]; exact Nat.lt_trans q3 (by decide)), e, e2]
  rw [← n1, ← n2] at q4 q5 q6 q7 q8
  have n3 : nL y3 = (nL y2 + nL y2 / 16) &&& 1085102592571150095 := by
    have e : nL (lUsh y2 4) = nL y2 / 16 := u y2 4 (by decide)
    rw [← h3, nL_and, m0, nL_add (by rw [e]; exact q4), e]
  rw [← n3] at q5 q6 q7 q8
  have n4 : nL y4 = nL y3 + nL y3 / 256 := by
    have e : nL (lUsh y3 8) = nL y3 / 256 := u y3 8 (by decide)
    rw [← h4, nL_add (by rw [e]; exact Nat.lt_trans q5 (by decide)), e]
  rw [← n4] at q6 q7 q8
  have n5 : nL y5 = nL y4 + nL y4 / 65536 := by
    have e : nL (lUsh y4 16) = nL y4 / 65536 := u y4 16 (by decide)
    rw [← h5, nL_add (by rw [e]; exact Nat.lt_trans q6 (by decide)), e]
  rw [← n5] at q7 q8
  have n6 : nL y6 = nL y5 + nL y5 / 4294967296 := by
    have e : nL (lUsh y5 32) = nL y5 / 4294967296 := u y5 32 (by decide)
    rw [← h6, nL_add (by rw [e]; exact q7), e]
  rw [← n6] at q8
  refine e57 hs ?_
  rw [h1]
  refine v57_10 hs ?_
  rw [h2]
  refine v57_24 hs ?_
  rw [h3]
  refine v57_34 hs ?_
  rw [h4]
  refine v57_41 hs ?_
  rw [h5]
  refine v57_48 hs ?_
  rw [h6]
  refine v57_55 hs ?_
  rw [l2I_127, q8]
  exact h
/-! 62: PinBarrel$Ring.pairs(JJII)I -/
theorem b62 : mB 62 = cX5_pairs := rfl
theorem r62 : mR 62 = (some .int) := rfl
theorem p62 (a b : Nat) : phi 62 a ≤ phi 62 b := Nat.le_refl 0
theorem d62_0 : decode cX5_pairs 0 = .ok (.iconst 0, 1) := by decide +kernel
theorem d62_1 : decode cX5_pairs 1 = .ok (.istore 6, 2) := by decide +kernel
theorem d62_3 : decode cX5_pairs 3 = .ok (.iconst 0, 1) := by decide +kernel
theorem d62_4 : decode cX5_pairs 4 = .ok (.istore 7, 2) := by decide +kernel
theorem d62_6 : decode cX5_pairs 6 = .ok (.iload 7, 2) := by decide +kernel
theorem d62_8 : decode cX5_pairs 8 = .ok (.iload 4, 2) := by decide +kernel
theorem d62_10 : decode cX5_pairs 10 = .ok (.if_icmp .ge 50, 3) := by decide +kernel
theorem d62_13 : decode cX5_pairs 13 = .ok (.iload 6, 2) := by decide +kernel
theorem d62_15 : decode cX5_pairs 15 = .ok (.lload_n 0, 1) := by decide +kernel
theorem d62_16 : decode cX5_pairs 16 = .ok (.iload 7, 2) := by decide +kernel
theorem d62_18 : decode cX5_pairs 18 = .ok (.iload 5, 2) := by decide +kernel
theorem d62_20 : decode cX5_pairs 20 = .ok (.invokestatic 21, 3) := by decide +kernel
theorem d62_23 : decode cX5_pairs 23 = .ok (.lload_n 2, 1) := by decide +kernel
theorem d62_24 : decode cX5_pairs 24 = .ok (.land, 1) := by decide +kernel
theorem d62_25 : decode cX5_pairs 25 = .ok (.invokestatic 29, 3) := by decide +kernel
theorem d62_28 : decode cX5_pairs 28 = .ok (.iadd, 1) := by decide +kernel
theorem d62_29 : decode cX5_pairs 29 = .ok (.istore 6, 2) := by decide +kernel
theorem d62_31 : decode cX5_pairs 31 = .ok (.iload 7, 2) := by decide +kernel
theorem d62_33 : decode cX5_pairs 33 = .ok (.ifCond .le 21, 3) := by decide +kernel
theorem d62_36 : decode cX5_pairs 36 = .ok (.iload 6, 2) := by decide +kernel
theorem d62_38 : decode cX5_pairs 38 = .ok (.lload_n 2, 1) := by decide +kernel
theorem d62_39 : decode cX5_pairs 39 = .ok (.iload 7, 2) := by decide +kernel
theorem d62_41 : decode cX5_pairs 41 = .ok (.iload 5, 2) := by decide +kernel
theorem d62_43 : decode cX5_pairs 43 = .ok (.invokestatic 21, 3) := by decide +kernel
theorem d62_46 : decode cX5_pairs 46 = .ok (.lload_n 0, 1) := by decide +kernel
theorem d62_47 : decode cX5_pairs 47 = .ok (.land, 1) := by decide +kernel
theorem d62_48 : decode cX5_pairs 48 = .ok (.invokestatic 29, 3) := by decide +kernel
theorem d62_51 : decode cX5_pairs 51 = .ok (.iadd, 1) := by decide +kernel
theorem d62_52 : decode cX5_pairs 52 = .ok (.istore 6, 2) := by decide +kernel
theorem d62_54 : decode cX5_pairs 54 = .ok (.iinc 7 1, 3) := by decide +kernel
theorem d62_57 : decode cX5_pairs 57 = .ok (.goto (-51), 3) := by decide +kernel
theorem d62_60 : decode cX5_pairs 60 = .ok (.iload 6, 2) := by decide +kernel
theorem d62_62 : decode cX5_pairs 62 = .ok (.ireturn, 1) := by decide +kernel
theorem v62_0 {w : PW} {Q : PO → PW → Prop} {y0 : Int64} {y2 : Int64} {x4 : Int} {x5 : Int} (hs : Sh w) (hx4 : bd x4) (hx5 : bd x5) (h : pX 62 6 [some (.long y0), none, some (.long y2), none, some (iv x4), some (iv x5), some (iv 0), some (iv 0)] [] w Q) : pX 62 0 [some (.long y0), none, some (.long y2), none, some (iv x4), some (iv x5), none, none] [] w Q :=
  w_f b62 d62_0 rfl rfl rfl <| w_f b62 d62_1 rfl rfl rfl <| w_f b62 d62_3 rfl rfl rfl <| w_f b62 d62_4 rfl rfl rfl <| h
theorem e62 {w : PW} {Q : PO → PW → Prop} {y0 : Int64} {y2 : Int64} {x4 : Int} {x5 : Int} (hs : Sh w) (hx4 : bd x4) (hx5 : bd x5) (h : pX 62 6 [some (.long y0), none, some (.long y2), none, some (iv x4), some (iv x5), some (iv 0), some (iv 0)] [] w Q) : pC 62 [.long y0, .long y2, iv x4, iv x5] w Q :=
  (pC_in (Nat.le_of_ble_eq_true rfl) rfl Q).mpr (v62_0 hs hx4 hx5 h)
theorem v62_6 {w : PW} {Q : PO → PW → Prop} {y0 : Int64} {y2 : Int64} {x4 : Int} {x5 : Int} {x6 : Int} {x7 : Int} (hs : Sh w) (hx4 : bd x4) (hx5 : bd x5) (hx6 : bd x6) (hx7 : bd x7) (h : (x4 ≤ x7 → Q (.inl (some (iv x6))) w) ∧ (x7 < x4 → (bd (x5 - x7)) ∧ (x7 ≤ 0 → pX 62 6 [some (.long y0), none, some (.long y2), none, some (iv x4), some (iv x5), some (iv (x6 + ((cnt (tL ((lMov y0 x7 x5) &&& y2)) 64 : Int)))), some (iv (x7 + 1))] [] w Q) ∧ (0 < x7 → (bd (x5 - x7)) ∧ pX 62 6 [some (.long y0), none, some (.long y2), none, some (iv x4), some (iv x5), some (iv ((x6 + ((cnt (tL ((lMov y0 x7 x5) &&& y2)) 64 : Int))) + ((cnt (tL ((lMov y2 x7 x5) &&& y0)) 64 : Int)))), some (iv (x7 + 1))] [] w Q))) : pX 62 6 [some (.long y0), none, some (.long y2), none, some (iv x4), some (iv x5), some (iv x6), some (iv x7)] [] w Q :=
  w_f b62 d62_6 rfl rfl rfl <| w_f b62 d62_8 rfl rfl rfl <| w_icge b62 d62_10 rfl rfl (p62 _ _) hx7 hx4 (fun c1 => w_f b62 d62_60 rfl rfl rfl <| w_ri b62 d62_62 r62 (h.1 c1)) (fun c1 => w_f b62 d62_13 rfl rfl rfl <| w_f b62 d62_15 rfl rfl rfl <| w_f b62 d62_16 rfl rfl rfl <| w_f b62 d62_18 rfl rfl rfl <| w_cc b62 d62_20 rfl (pcl_s1 (n := 3) rfl rfl rfl (by decide +kernel) rfl rfl) rfl <| c61 hs hx7 hx5 (h.2 c1).1 <| w_f b62 d62_23 rfl rfl rfl <| w_f b62 d62_24 rfl rfl rfl <| w_cc b62 d62_25 rfl (pcl_s1 (n := 1) rfl rfl rfl (by decide +kernel) rfl rfl) rfl <| c57 hs <| w_f b62 d62_28 rfl (pf_iadd x6 ((cnt (tL ((lMov y0 x7 x5) &&& y2)) 64 : Int))) rfl <| w_f b62 d62_29 rfl rfl rfl <| w_f b62 d62_31 rfl rfl rfl <| w_ifle b62 d62_33 rfl rfl (p62 _ _) hx7 (fun c2 => w_f b62 d62_54 rfl (pf_iinc rfl rfl) rfl <| w_j b62 d62_57 rfl (p62 _ _) <| ((h.2 c1).2.1 c2)) (fun c2 => w_f b62 d62_36 rfl rfl rfl <| w_f b62 d62_38 rfl rfl rfl <| w_f b62 d62_39 rfl rfl rfl <| w_f b62 d62_41 rfl rfl rfl <| w_cc b62 d62_43 rfl (pcl_s1 (n := 3) rfl rfl rfl (by decide +kernel) rfl rfl) rfl <| c61 hs hx7 hx5 ((h.2 c1).2.2 c2).1 <| w_f b62 d62_46 rfl rfl rfl <| w_f b62 d62_47 rfl rfl rfl <| w_cc b62 d62_48 rfl (pcl_s1 (n := 1) rfl rfl rfl (by decide +kernel) rfl rfl) rfl <| c57 hs <| w_f b62 d62_51 rfl (pf_iadd (x6 + ((cnt (tL ((lMov y0 x7 x5) &&& y2)) 64 : Int))) ((cnt (tL ((lMov y2 x7 x5) &&& y0)) 64 : Int))) rfl <| w_f b62 d62_52 rfl rfl rfl <| w_f b62 d62_54 rfl (pf_iinc rfl rfl) rfl <| w_j b62 d62_57 rfl (p62 _ _) <| ((h.2 c1).2.2 c2).2))
theorem l62 {w : PW} {Q : PO → PW → Prop} {y0 y2 : Int64} {x4 x5 : Int} (hs : Sh w) (hx4 : bd x4) (hz : x4 ≤ 3) (hz5 : 3 ≤ x5 ∧ x5 ≤ 64) (h : Q (.inl (some (iv (lPrs y0 y2 x4 x5)))) w) : ∀ k i : Nat, i + k = x4.toNat → pX 62 6 [some (.long y0), none, some (.long y2), none, some (iv x4), some (iv x5), some (iv (sm (lPrf y0 y2 x5) i)), some (iv (i : Int))] [] w Q := by
  have hx5 : bd x5 := ⟨by omega, by omega⟩
  have hb : ∀ i : Nat, i ≤ 3 → bd (sm (lPrf y0 y2 x5) i) := by
    intro i hi
    have h1 := sm_bd (f := lPrf y0 y2 x5) (n := i) (fun i _ => lPrf_bd y0 y2 x5 i)
    exact ⟨by omega, by omega⟩
  intro k
  induction k with
  | zero =>
    intro i hi
    refine v62_6 hs hx4 hx5 (hb i (by omega)) ⟨by omega, by omega⟩ ⟨fun _ => ?_, fun q => by omega⟩
    unfold lPrs at h
    rw [show x4.toNat = i from by omega] at h
    exact h
  | succ k ih =>
    intro i hi
    refine v62_6 hs hx4 hx5 (hb i (by omega)) ⟨by omega, by omega⟩ ⟨fun q => by omega, fun _ => ⟨⟨by omega, by omega⟩, fun q => ?_, fun q => ⟨⟨by omega, by omega⟩, ?_⟩⟩⟩
    · have := ih (i + 1) (by omega)
      rw [sm_s] at this
      unfold lPrf at this
      rw [if_neg (by omega), Int.add_zero] at this
      exact this
    · have := ih (i + 1) (by omega)
      rw [sm_s, show lPrf y0 y2 x5 i = (cnt (tL (lMov y0 i x5 &&& y2)) 64 : Int) + (cnt (tL (lMov y2 i x5 &&& y0)) 64 : Int) from by unfold lPrf; rw [if_pos (by omega)], ← Int.add_assoc] at this
      exact this
theorem c62 {w : PW} {Q : PO → PW → Prop} {y0 y2 : Int64} {x4 x5 : Int} (hs : Sh w) (hx4 : bd x4) (hx5 : bd x5) (hz : x4 ≤ 3) (hz5 : 3 ≤ x5 ∧ x5 ≤ 64) (h : Q (.inl (some (iv (lPrs y0 y2 x4 x5)))) w) : pC 62 [.long y0, .long y2, iv x4, iv x5] w Q :=
  e62 hs hx4 hx5 (l62 hs hx4 hz hz5 h x4.toNat 0 (by omega))
/-! 63: PinBarrel$Box.collisionsAbove(I)I -/
theorem b63 : mB 63 = cX0_collisionsAbove := rfl
theorem r63 : mR 63 = (some .int) := rfl
theorem p63 (a b : Nat) : phi 63 a ≤ phi 63 b := Nat.le_refl 0
theorem d63_0 : decode cX0_collisionsAbove 0 = .ok (.aload_n 0, 1) := by decide +kernel
theorem d63_1 : decode cX0_collisionsAbove 1 = .ok (.iload_n 1, 1) := by decide +kernel
theorem d63_2 : decode cX0_collisionsAbove 2 = .ok (.invokevirtual 85, 3) := by decide +kernel
theorem d63_5 : decode cX0_collisionsAbove 5 = .ok (.aload_n 0, 1) := by decide +kernel
theorem d63_6 : decode cX0_collisionsAbove 6 = .ok (.iload_n 1, 1) := by decide +kernel
theorem d63_7 : decode cX0_collisionsAbove 7 = .ok (.iconst 1, 1) := by decide +kernel
theorem d63_8 : decode cX0_collisionsAbove 8 = .ok (.iadd, 1) := by decide +kernel
theorem d63_9 : decode cX0_collisionsAbove 9 = .ok (.invokevirtual 85, 3) := by decide +kernel
theorem d63_12 : decode cX0_collisionsAbove 12 = .ok (.aload_n 0, 1) := by decide +kernel
theorem d63_13 : decode cX0_collisionsAbove 13 = .ok (.getfield 18, 3) := by decide +kernel
theorem d63_16 : decode cX0_collisionsAbove 16 = .ok (.aload_n 0, 1) := by decide +kernel
theorem d63_17 : decode cX0_collisionsAbove 17 = .ok (.getfield 9, 3) := by decide +kernel
theorem d63_20 : decode cX0_collisionsAbove 20 = .ok (.invokestatic 142, 3) := by decide +kernel
theorem d63_23 : decode cX0_collisionsAbove 23 = .ok (.ireturn, 1) := by decide +kernel
theorem v63_0 {w : PW} {Q : PO → PW → Prop} {b : Nat} {x1 : Int} (hs : Sh w) (hb : bx b) (hx1 : bd x1) (h : (bd (x1 + 1)) ∧ ((gI w b 2) ≤ 3) ∧ (3 ≤ (gI w b 0) ∧ (gI w b 0) ≤ 64) ∧ Q (.inl (some (iv (lPrs (lP w b x1) (lP w b (x1 + 1)) (gI w b 2) (gI w b 0))))) w) : pX 63 0 [some (.ref b), some (iv x1)] [] w Q :=
  w_f b63 d63_0 rfl rfl rfl <| w_f b63 d63_1 rfl rfl rfl <| w_cc b63 d63_2 rfl (pcl_v (n := 1) rfl rfl rfl (by decide +kernel) (sh_isOb hs (bx00 hb) (tb0 hb)) rfl rfl) rfl <| c29 hs hb hx1 <| w_f b63 d63_5 rfl rfl rfl <| w_f b63 d63_6 rfl rfl rfl <| w_f b63 d63_7 rfl rfl rfl <| w_f b63 d63_8 rfl (pf_iadd x1 1) rfl <| w_cc b63 d63_9 rfl (pcl_v (n := 1) rfl rfl rfl (by decide +kernel) (sh_isOb hs (bx00 hb) (tb0 hb)) rfl rfl) rfl <| c29 hs hb h.1 <| w_f b63 d63_12 rfl rfl rfl <| w_gi b63 d63_13 rfl rfl hs (bx00 hb) (tb0 hb) rfl <| w_f b63 d63_16 rfl rfl rfl <| w_gi b63 d63_17 rfl rfl hs (bx00 hb) (tb0 hb) rfl <| w_cc b63 d63_20 rfl (pcl_s1 (n := 4) rfl rfl rfl (by decide +kernel) rfl rfl) rfl <| c62 hs (bd_gI _ _ _) (bd_gI _ _ _) h.2.1 h.2.2.1 <| w_ri b63 d63_23 r63 h.2.2.2
theorem e63 {w : PW} {Q : PO → PW → Prop} {b : Nat} {x1 : Int} (hs : Sh w) (hb : bx b) (hx1 : bd x1) (h : (bd (x1 + 1)) ∧ ((gI w b 2) ≤ 3) ∧ (3 ≤ (gI w b 0) ∧ (gI w b 0) ≤ 64) ∧ Q (.inl (some (iv (lPrs (lP w b x1) (lP w b (x1 + 1)) (gI w b 2) (gI w b 0))))) w) : pC 63 [.ref b, iv x1] w Q :=
  (pC_in (Nat.le_of_ble_eq_true rfl) rfl Q).mpr (v63_0 hs hb hx1 h)
theorem c63 {w : PW} {Q : PO → PW → Prop} {b : Nat} {x1 : Int} (hs : Sh w) (hb : bx b) (hx1 : bd x1) (h1 : bd (x1 + 1)) (h2 : gI w b 2 ≤ 3) (h3 : 3 ≤ gI w b 0 ∧ gI w b 0 ≤ 64) (h : Q (.inl (some (iv (lPrs (lP w b x1) (lP w b (x1 + 1)) (gI w b 2) (gI w b 0))))) w) : pC 63 [.ref b, iv x1] w Q := e63 hs hb hx1 ⟨h1, h2, h3, h⟩
/-! 81: PinBarrel$Ring.member(JII)I -/
theorem b81 : mB 81 = cX5_member := rfl
theorem r81 : mR 81 = (some .int) := rfl
theorem p81 (a b : Nat) : phi 81 a ≤ phi 81 b := Nat.le_refl 0
theorem d81_0 : decode cX5_member 0 = .ok (.iload_n 2, 1) := by decide +kernel
theorem d81_1 : decode cX5_member 1 = .ok (.istore 4, 2) := by decide +kernel
theorem d81_3 : decode cX5_member 3 = .ok (.iconst 0, 1) := by decide +kernel
theorem d81_4 : decode cX5_member 4 = .ok (.istore 5, 2) := by decide +kernel
theorem d81_6 : decode cX5_member 6 = .ok (.iload 5, 2) := by decide +kernel
theorem d81_8 : decode cX5_member 8 = .ok (.iload_n 3, 1) := by decide +kernel
theorem d81_9 : decode cX5_member 9 = .ok (.if_icmp .ge 34, 3) := by decide +kernel
theorem d81_12 : decode cX5_member 12 = .ok (.iload 4, 2) := by decide +kernel
theorem d81_14 : decode cX5_member 14 = .ok (.ifCond .lt 29, 3) := by decide +kernel
theorem d81_17 : decode cX5_member 17 = .ok (.lload_n 0, 1) := by decide +kernel
theorem d81_18 : decode cX5_member 18 = .ok (.iload 5, 2) := by decide +kernel
theorem d81_20 : decode cX5_member 20 = .ok (.invokestatic 17, 3) := by decide +kernel
theorem d81_23 : decode cX5_member 23 = .ok (.ifCond .eq 14, 3) := by decide +kernel
theorem d81_26 : decode cX5_member 26 = .ok (.iload 4, 2) := by decide +kernel
theorem d81_28 : decode cX5_member 28 = .ok (.ifCond .ne 6, 3) := by decide +kernel
theorem d81_31 : decode cX5_member 31 = .ok (.iload 5, 2) := by decide +kernel
theorem d81_33 : decode cX5_member 33 = .ok (.ireturn, 1) := by decide +kernel
theorem d81_34 : decode cX5_member 34 = .ok (.iinc 4 (-1), 3) := by decide +kernel
theorem d81_37 : decode cX5_member 37 = .ok (.iinc 5 1, 3) := by decide +kernel
theorem d81_40 : decode cX5_member 40 = .ok (.goto (-34), 3) := by decide +kernel
theorem d81_43 : decode cX5_member 43 = .ok (.iconst (-1), 1) := by decide +kernel
theorem d81_44 : decode cX5_member 44 = .ok (.ireturn, 1) := by decide +kernel
theorem v81_0 {w : PW} {Q : PO → PW → Prop} {y0 : Int64} {x2 : Int} {x3 : Int} (hs : Sh w) (hx2 : bd x2) (hx3 : bd x3) (h : pX 81 6 [some (.long y0), none, some (iv x2), some (iv x3), some (iv x2), some (iv 0)] [] w Q) : pX 81 0 [some (.long y0), none, some (iv x2), some (iv x3), none, none] [] w Q :=
  w_f b81 d81_0 rfl rfl rfl <| w_f b81 d81_1 rfl rfl rfl <| w_f b81 d81_3 rfl rfl rfl <| w_f b81 d81_4 rfl rfl rfl <| h
theorem e81 {w : PW} {Q : PO → PW → Prop} {y0 : Int64} {x2 : Int} {x3 : Int} (hs : Sh w) (hx2 : bd x2) (hx3 : bd x3) (h : pX 81 6 [some (.long y0), none, some (iv x2), some (iv x3), some (iv x2), some (iv 0)] [] w Q) : pC 81 [.long y0, iv x2, iv x3] w Q :=
  (pC_in (Nat.le_of_ble_eq_true rfl) rfl Q).mpr (v81_0 hs hx2 hx3 h)
theorem v81_6 {w : PW} {Q : PO → PW → Prop} {y0 : Int64} {x2 : Int} {x3 : Int} {x4 : Int} {x5 : Int} (hs : Sh w) (hx2 : bd x2) (hx3 : bd x3) (hx4 : bd x4) (hx5 : bd x5) (h : (x3 ≤ x5 → Q (.inl (some (iv ((-1))))) w) ∧ (x5 < x3 → (x4 < 0 → Q (.inl (some (iv ((-1))))) w) ∧ (0 ≤ x4 → (0 ≤ x5 ∧ x5 < 64) ∧ ((¬ (tL y0 (x5).toNat = true)) → pX 81 6 [some (.long y0), none, some (iv x2), some (iv x3), some (iv x4), some (iv (x5 + 1))] [] w Q) ∧ ((tL y0 (x5).toNat = true) → (x4 ≠ 0 → pX 81 6 [some (.long y0), none, some (iv x2), some (iv x3), some (iv (x4 + (-1))), some (iv (x5 + 1))] [] w Q) ∧ (x4 = 0 → Q (.inl (some (iv x5))) w))))) : pX 81 6 [some (.long y0), none, some (iv x2), some (iv x3), some (iv x4), some (iv x5)] [] w Q :=
  w_f b81 d81_6 rfl rfl rfl <| w_f b81 d81_8 rfl rfl rfl <| w_icge b81 d81_9 rfl rfl (p81 _ _) hx5 hx3 (fun c1 => w_f b81 d81_43 rfl rfl rfl <| w_ri b81 d81_44 r81 (h.1 c1)) (fun c1 => w_f b81 d81_12 rfl rfl rfl <| w_iflt b81 d81_14 rfl rfl (p81 _ _) hx4 (fun c2 => w_f b81 d81_43 rfl rfl rfl <| w_ri b81 d81_44 r81 ((h.2 c1).1 c2)) (fun c2 => w_f b81 d81_17 rfl rfl rfl <| w_f b81 d81_18 rfl rfl rfl <| w_cc b81 d81_20 rfl (pcl_s1 (n := 2) rfl rfl rfl (by decide +kernel) rfl rfl) rfl <| c42 hs hx5 ((h.2 c1).2 c2).1 <| w_ifeqZ b81 d81_23 rfl rfl (p81 _ _) (fun c3 => w_f b81 d81_37 rfl (pf_iinc rfl rfl) rfl <| w_j b81 d81_40 rfl (p81 _ _) <| (((h.2 c1).2 c2).2.1 c3)) (fun c3 => w_f b81 d81_26 rfl rfl rfl <| w_ifne b81 d81_28 rfl rfl (p81 _ _) hx4 (fun c4 => w_f b81 d81_34 rfl (pf_iinc rfl rfl) rfl <| w_f b81 d81_37 rfl (pf_iinc rfl rfl) rfl <| w_j b81 d81_40 rfl (p81 _ _) <| ((((h.2 c1).2 c2).2.2 c3).1 c4)) (fun c4 => w_f b81 d81_31 rfl rfl rfl <| w_ri b81 d81_33 r81 ((((h.2 c1).2 c2).2.2 c3).2 c4)))))
theorem l81 {w : PW} {Q : PO → PW → Prop} {y0 : Int64} {x2 x3 : Int} (hs : Sh w) (hx2 : bd x2) (hz : 0 ≤ x3 ∧ x3 ≤ 64) (h : Q (.inl (some (iv (sel (tL y0) x2 x3.toNat)))) w) : ∀ k i : Nat, (i : Int) + k = x3 → (0 ≤ x2 → (cnt (tL y0) i : Int) ≤ x2) → (x2 < 0 → cnt (tL y0) i = 0) → pX 81 6 [some (.long y0), none, some (iv x2), some (iv x3), some (iv (x2 - (cnt (tL y0) i : Int))), some (iv (i : Int))] [] w Q := by
  have hx3 : bd x3 := ⟨by omega, by omega⟩
  intro k
  induction k with
  | zero =>
    intro i hi h0 h1
    have hc := cnt_le (tL y0) i
    have := hx2.1
    have := hx2.2
    refine v81_6 hs hx2 hx3 (by constructor <;> omega) ⟨by omega, by omega⟩ ⟨fun _ => ?_, fun q => by omega⟩
    rw [sel_no (by rw [show x3.toNat = i from by omega]; by_cases q : 0 ≤ x2 <;> omega)] at h
    exact h
  | succ k ih =>
    intro i hi h0 h1
    have hc := cnt_le (tL y0) i
    have := hx2.1
    have := hx2.2
    refine v81_6 hs hx2 hx3 (by constructor <;> omega) ⟨by omega, by omega⟩ ⟨fun q => by omega, fun _ => ⟨fun q => ?_, fun q => ⟨⟨by omega, by omega⟩, fun q2 => ?_, fun q2 => ⟨fun q3 => ?_, fun q3 => ?_⟩⟩⟩⟩
    · rw [sel_no (Or.inl (by by_cases q : 0 ≤ x2 <;> omega))] at h
      exact h
    · have e : cnt (tL y0) (i + 1) = cnt (tL y0) i := cnt_f (Bool.eq_false_iff.mpr q2)
      have := ih (i + 1) (by omega) (by rw [e]; exact h0) (by rw [e]; exact h1)
      rw [e] at this
      exact this
    · have e : cnt (tL y0) (i + 1) = cnt (tL y0) i + 1 := cnt_t q2
      have := ih (i + 1) (by omega) (by rw [e]; omega) (by rw [e]; omega)
      rw [e, show x2 - ((cnt (tL y0) i + 1 : Nat) : Int) = x2 - (cnt (tL y0) i : Int) + (-1) from by omega] at this
      exact this
    · rw [sel_at (i := i) (by omega) q2 (by omega)] at h
      exact h
theorem c81 {w : PW} {Q : PO → PW → Prop} {y0 : Int64} {x2 x3 : Int} (hs : Sh w) (hx2 : bd x2) (hx3 : bd x3) (hz : 0 ≤ x3 ∧ x3 ≤ 64) (h : Q (.inl (some (iv (sel (tL y0) x2 x3.toNat)))) w) : pC 81 [.long y0, iv x2, iv x3] w Q := by
  have := l81 hs hx2 hz h x3.toNat 0 (by omega) (fun q => q) (fun _ => rfl)
  rw [show x2 - ((cnt (tL y0) 0 : Nat) : Int) = x2 from by show x2 - 0 = x2; omega] at this
  exact e81 hs hx2 hx3 this
/-! 87: java/lang/Integer.bitCount(I)I -/
theorem b87 : mB 87 = cJ6_bitCount_0f7a4 := rfl
theorem r87 : mR 87 = (some .int) := rfl
theorem p87 (a b : Nat) : phi 87 a ≤ phi 87 b := Nat.le_refl 0
theorem d87_0 : decode cJ6_bitCount_0f7a4 0 = .ok (.iload_n 0, 1) := by decide +kernel
theorem d87_1 : decode cJ6_bitCount_0f7a4 1 = .ok (.iload_n 0, 1) := by decide +kernel
theorem d87_2 : decode cJ6_bitCount_0f7a4 2 = .ok (.iconst 1, 1) := by decide +kernel
theorem d87_3 : decode cJ6_bitCount_0f7a4 3 = .ok (.iushr, 1) := by decide +kernel
theorem d87_4 : decode cJ6_bitCount_0f7a4 4 = .ok (.ldc_w 265, 3) := by decide +kernel
theorem d87_7 : decode cJ6_bitCount_0f7a4 7 = .ok (.iand, 1) := by decide +kernel
theorem d87_8 : decode cJ6_bitCount_0f7a4 8 = .ok (.isub, 1) := by decide +kernel
theorem d87_9 : decode cJ6_bitCount_0f7a4 9 = .ok (.istore_n 0, 1) := by decide +kernel
theorem d87_10 : decode cJ6_bitCount_0f7a4 10 = .ok (.iload_n 0, 1) := by decide +kernel
theorem d87_11 : decode cJ6_bitCount_0f7a4 11 = .ok (.ldc_w 266, 3) := by decide +kernel
theorem d87_14 : decode cJ6_bitCount_0f7a4 14 = .ok (.iand, 1) := by decide +kernel
theorem d87_15 : decode cJ6_bitCount_0f7a4 15 = .ok (.iload_n 0, 1) := by decide +kernel
theorem d87_16 : decode cJ6_bitCount_0f7a4 16 = .ok (.iconst 2, 1) := by decide +kernel
theorem d87_17 : decode cJ6_bitCount_0f7a4 17 = .ok (.iushr, 1) := by decide +kernel
theorem d87_18 : decode cJ6_bitCount_0f7a4 18 = .ok (.ldc_w 266, 3) := by decide +kernel
theorem d87_21 : decode cJ6_bitCount_0f7a4 21 = .ok (.iand, 1) := by decide +kernel
theorem d87_22 : decode cJ6_bitCount_0f7a4 22 = .ok (.iadd, 1) := by decide +kernel
theorem d87_23 : decode cJ6_bitCount_0f7a4 23 = .ok (.istore_n 0, 1) := by decide +kernel
theorem d87_24 : decode cJ6_bitCount_0f7a4 24 = .ok (.iload_n 0, 1) := by decide +kernel
theorem d87_25 : decode cJ6_bitCount_0f7a4 25 = .ok (.iload_n 0, 1) := by decide +kernel
theorem d87_26 : decode cJ6_bitCount_0f7a4 26 = .ok (.iconst 4, 1) := by decide +kernel
theorem d87_27 : decode cJ6_bitCount_0f7a4 27 = .ok (.iushr, 1) := by decide +kernel
theorem d87_28 : decode cJ6_bitCount_0f7a4 28 = .ok (.iadd, 1) := by decide +kernel
theorem d87_29 : decode cJ6_bitCount_0f7a4 29 = .ok (.ldc_w 267, 3) := by decide +kernel
theorem d87_32 : decode cJ6_bitCount_0f7a4 32 = .ok (.iand, 1) := by decide +kernel
theorem d87_33 : decode cJ6_bitCount_0f7a4 33 = .ok (.istore_n 0, 1) := by decide +kernel
theorem d87_34 : decode cJ6_bitCount_0f7a4 34 = .ok (.iload_n 0, 1) := by decide +kernel
theorem d87_35 : decode cJ6_bitCount_0f7a4 35 = .ok (.iload_n 0, 1) := by decide +kernel
theorem d87_36 : decode cJ6_bitCount_0f7a4 36 = .ok (.bipush 8, 2) := by decide +kernel
theorem d87_38 : decode cJ6_bitCount_0f7a4 38 = .ok (.iushr, 1) := by decide +kernel
theorem d87_39 : decode cJ6_bitCount_0f7a4 39 = .ok (.iadd, 1) := by decide +kernel
theorem d87_40 : decode cJ6_bitCount_0f7a4 40 = .ok (.istore_n 0, 1) := by decide +kernel
theorem d87_41 : decode cJ6_bitCount_0f7a4 41 = .ok (.iload_n 0, 1) := by decide +kernel
theorem d87_42 : decode cJ6_bitCount_0f7a4 42 = .ok (.iload_n 0, 1) := by decide +kernel
theorem d87_43 : decode cJ6_bitCount_0f7a4 43 = .ok (.bipush 16, 2) := by decide +kernel
theorem d87_45 : decode cJ6_bitCount_0f7a4 45 = .ok (.iushr, 1) := by decide +kernel
theorem d87_46 : decode cJ6_bitCount_0f7a4 46 = .ok (.iadd, 1) := by decide +kernel
theorem d87_47 : decode cJ6_bitCount_0f7a4 47 = .ok (.istore_n 0, 1) := by decide +kernel
theorem d87_48 : decode cJ6_bitCount_0f7a4 48 = .ok (.iload_n 0, 1) := by decide +kernel
theorem d87_49 : decode cJ6_bitCount_0f7a4 49 = .ok (.bipush 63, 2) := by decide +kernel
theorem d87_51 : decode cJ6_bitCount_0f7a4 51 = .ok (.iand, 1) := by decide +kernel
theorem d87_52 : decode cJ6_bitCount_0f7a4 52 = .ok (.ireturn, 1) := by decide +kernel
theorem v87_0 {w : PW} {Q : PO → PW → Prop} {x0 : Int} (hs : Sh w) (hx0 : bd x0) (h : pX 87 10 [some (iv (x0 - (iAnd (iUsh x0 1) 1431655765)))] [] w Q) : pX 87 0 [some (iv x0)] [] w Q :=
  w_f b87 d87_0 rfl rfl rfl <| w_f b87 d87_1 rfl rfl rfl <| w_f b87 d87_2 rfl rfl rfl <| w_f b87 d87_3 rfl (pf_iushr x0 1) rfl <| w_ldcwI b87 d87_4 rfl rfl <| w_f b87 d87_7 rfl (pf_iand (iUsh x0 1) 1431655765) rfl <| w_f b87 d87_8 rfl (pf_isub x0 (iAnd (iUsh x0 1) 1431655765)) rfl <| w_f b87 d87_9 rfl rfl rfl <| h
theorem e87 {w : PW} {Q : PO → PW → Prop} {x0 : Int} (hs : Sh w) (hx0 : bd x0) (h : pX 87 10 [some (iv (x0 - (iAnd (iUsh x0 1) 1431655765)))] [] w Q) : pC 87 [iv x0] w Q :=
  (pC_in (Nat.le_of_ble_eq_true rfl) rfl Q).mpr (v87_0 hs hx0 h)
theorem v87_10 {w : PW} {Q : PO → PW → Prop} {x0 : Int} (hs : Sh w) (hx0 : bd x0) (h : pX 87 24 [some (iv ((iAnd x0 858993459) + (iAnd (iUsh x0 2) 858993459)))] [] w Q) : pX 87 10 [some (iv x0)] [] w Q :=
  w_f b87 d87_10 rfl rfl rfl <| w_ldcwI b87 d87_11 rfl rfl <| w_f b87 d87_14 rfl (pf_iand x0 858993459) rfl <| w_f b87 d87_15 rfl rfl rfl <| w_f b87 d87_16 rfl rfl rfl <| w_f b87 d87_17 rfl (pf_iushr x0 2) rfl <| w_ldcwI b87 d87_18 rfl rfl <| w_f b87 d87_21 rfl (pf_iand (iUsh x0 2) 858993459) rfl <| w_f b87 d87_22 rfl (pf_iadd (iAnd x0 858993459) (iAnd (iUsh x0 2) 858993459)) rfl <| w_f b87 d87_23 rfl rfl rfl <| h
theorem v87_24 {w : PW} {Q : PO → PW → Prop} {x0 : Int} (hs : Sh w) (hx0 : bd x0) (h : pX 87 34 [some (iv (iAnd (x0 + (iUsh x0 4)) 252645135))] [] w Q) : pX 87 24 [some (iv x0)] [] w Q :=
  w_f b87 d87_24 rfl rfl rfl <| w_f b87 d87_25 rfl rfl rfl <| w_f b87 d87_26 rfl rfl rfl <| w_f b87 d87_27 rfl (pf_iushr x0 4) rfl <| w_f b87 d87_28 rfl (pf_iadd x0 (iUsh x0 4)) rfl <| w_ldcwI b87 d87_29 rfl rfl <| w_f b87 d87_32 rfl (pf_iand (x0 + (iUsh x0 4)) 252645135) rfl <| w_f b87 d87_33 rfl rfl rfl <| h
theorem v87_34 {w : PW} {Q : PO → PW → Prop} {x0 : Int} (hs : Sh w) (hx0 : bd x0) (h : pX 87 41 [some (iv (x0 + (iUsh x0 8)))] [] w Q) : pX 87 34 [some (iv x0)] [] w Q :=
  w_f b87 d87_34 rfl rfl rfl <| w_f b87 d87_35 rfl rfl rfl <| w_f b87 d87_36 rfl rfl rfl <| w_f b87 d87_38 rfl (pf_iushr x0 8) rfl <| w_f b87 d87_39 rfl (pf_iadd x0 (iUsh x0 8)) rfl <| w_f b87 d87_40 rfl rfl rfl <| h
theorem v87_41 {w : PW} {Q : PO → PW → Prop} {x0 : Int} (hs : Sh w) (hx0 : bd x0) (h : pX 87 48 [some (iv (x0 + (iUsh x0 16)))] [] w Q) : pX 87 41 [some (iv x0)] [] w Q :=
  w_f b87 d87_41 rfl rfl rfl <| w_f b87 d87_42 rfl rfl rfl <| w_f b87 d87_43 rfl rfl rfl <| w_f b87 d87_45 rfl (pf_iushr x0 16) rfl <| w_f b87 d87_46 rfl (pf_iadd x0 (iUsh x0 16)) rfl <| w_f b87 d87_47 rfl rfl rfl <| h
theorem v87_48 {w : PW} {Q : PO → PW → Prop} {x0 : Int} (hs : Sh w) (hx0 : bd x0) (h : Q (.inl (some (iv (iAnd x0 63)))) w) : pX 87 48 [some (iv x0)] [] w Q :=
  w_f b87 d87_48 rfl rfl rfl <| w_f b87 d87_49 rfl rfl rfl <| w_f b87 d87_51 rfl (pf_iand x0 63) rfl <| w_ri b87 d87_52 r87 h
theorem c87 {w : PW} {Q : PO → PW → Prop} {x0 : Int} (hs : Sh w) (hx0 : bd x0) (hz : 0 ≤ x0 ∧ x0 < 4096) (h : Q (.inl (some (iv (cnt (tI x0) 32 : Int)))) w) : pC 87 [iv x0] w Q := by
  obtain ⟨n, rfl⟩ : ∃ n : Nat, x0 = n := ⟨x0.toNat, by omega⟩
  have hc := chk87_all (n / 64) (by omega) (n % 64) (by omega)
  rw [show 64 * (n / 64) + n % 64 = n from by omega] at hc
  unfold chk87 at hc
  simp only [Bool.and_eq_true, decide_eq_true_eq] at hc
  obtain ⟨b1, b2, b3, b4, b5, b6⟩ := hc
  have e : cnt (tI (n : Int)) 32 = cnt (fun i => n.testBit i) 12 := by
    rw [show (32 : Nat) = 12 + 20 from rfl, cnt_split, cnt_zero (P := fun i => tI (n : Int) (12 + i)) (n := 20) (fun i hi => ?_)]
    · exact cnt_congr (fun i hi => tI_nat (by omega))
    · rw [tI_nat (by omega)]
      refine Nat.testBit_lt_two_pow (Nat.lt_of_lt_of_le (show n < 2 ^ 12 by omega) (Nat.pow_le_pow_right (by decide) (by omega)))
  rw [e, ← b6] at h
  exact e87 hs hx0 (v87_10 hs (ob_bd b1) (v87_24 hs (ob_bd b2) (v87_34 hs (ob_bd b3) (v87_41 hs (ob_bd b4) (v87_48 hs (ob_bd b5) h)))))
/-! 90: PinBarrel$Ring.wayOn(JII)I -/
theorem b90 : mB 90 = cX5_wayOn := rfl
theorem r90 : mR 90 = (some .int) := rfl
theorem p90 (a b : Nat) : phi 90 a ≤ phi 90 b := Nat.le_refl 0
theorem d90_0 : decode cX5_wayOn 0 = .ok (.iconst 1, 1) := by decide +kernel
theorem d90_1 : decode cX5_wayOn 1 = .ok (.istore 4, 2) := by decide +kernel
theorem d90_3 : decode cX5_wayOn 3 = .ok (.iload 4, 2) := by decide +kernel
theorem d90_5 : decode cX5_wayOn 5 = .ok (.iload_n 3, 1) := by decide +kernel
theorem d90_6 : decode cX5_wayOn 6 = .ok (.if_icmp .ge 27, 3) := by decide +kernel
theorem d90_9 : decode cX5_wayOn 9 = .ok (.lload_n 0, 1) := by decide +kernel
theorem d90_10 : decode cX5_wayOn 10 = .ok (.iload_n 2, 1) := by decide +kernel
theorem d90_11 : decode cX5_wayOn 11 = .ok (.iload 4, 2) := by decide +kernel
theorem d90_13 : decode cX5_wayOn 13 = .ok (.iadd, 1) := by decide +kernel
theorem d90_14 : decode cX5_wayOn 14 = .ok (.iload_n 3, 1) := by decide +kernel
theorem d90_15 : decode cX5_wayOn 15 = .ok (.invokestatic 25, 3) := by decide +kernel
theorem d90_18 : decode cX5_wayOn 18 = .ok (.invokestatic 17, 3) := by decide +kernel
theorem d90_21 : decode cX5_wayOn 21 = .ok (.ifCond .eq 6, 3) := by decide +kernel
theorem d90_24 : decode cX5_wayOn 24 = .ok (.iload 4, 2) := by decide +kernel
theorem d90_26 : decode cX5_wayOn 26 = .ok (.ireturn, 1) := by decide +kernel
theorem d90_27 : decode cX5_wayOn 27 = .ok (.iinc 4 1, 3) := by decide +kernel
theorem d90_30 : decode cX5_wayOn 30 = .ok (.goto (-27), 3) := by decide +kernel
theorem d90_33 : decode cX5_wayOn 33 = .ok (.iload_n 3, 1) := by decide +kernel
theorem d90_34 : decode cX5_wayOn 34 = .ok (.ireturn, 1) := by decide +kernel
theorem v90_0 {w : PW} {Q : PO → PW → Prop} {y0 : Int64} {x2 : Int} {x3 : Int} (hs : Sh w) (hx2 : bd x2) (hx3 : bd x3) (h : pX 90 3 [some (.long y0), none, some (iv x2), some (iv x3), some (iv 1)] [] w Q) : pX 90 0 [some (.long y0), none, some (iv x2), some (iv x3), none] [] w Q :=
  w_f b90 d90_0 rfl rfl rfl <| w_f b90 d90_1 rfl rfl rfl <| h
theorem e90 {w : PW} {Q : PO → PW → Prop} {y0 : Int64} {x2 : Int} {x3 : Int} (hs : Sh w) (hx2 : bd x2) (hx3 : bd x3) (h : pX 90 3 [some (.long y0), none, some (iv x2), some (iv x3), some (iv 1)] [] w Q) : pC 90 [.long y0, iv x2, iv x3] w Q :=
  (pC_in (Nat.le_of_ble_eq_true rfl) rfl Q).mpr (v90_0 hs hx2 hx3 h)
theorem v90_3 {w : PW} {Q : PO → PW → Prop} {y0 : Int64} {x2 : Int} {x3 : Int} {x4 : Int} (hs : Sh w) (hx2 : bd x2) (hx3 : bd x3) (hx4 : bd x4) (h : (x3 ≤ x4 → Q (.inl (some (iv x3))) w) ∧ (x4 < x3 → (bd (x2 + x4)) ∧ (bd (wrp (x2 + x4) x3)) ∧ (0 ≤ (wrp (x2 + x4) x3) ∧ (wrp (x2 + x4) x3) < 64) ∧ ((¬ (tL y0 ((wrp (x2 + x4) x3)).toNat = true)) → pX 90 3 [some (.long y0), none, some (iv x2), some (iv x3), some (iv (x4 + 1))] [] w Q) ∧ ((tL y0 ((wrp (x2 + x4) x3)).toNat = true) → Q (.inl (some (iv x4))) w))) : pX 90 3 [some (.long y0), none, some (iv x2), some (iv x3), some (iv x4)] [] w Q :=
  w_f b90 d90_3 rfl rfl rfl <| w_f b90 d90_5 rfl rfl rfl <| w_icge b90 d90_6 rfl rfl (p90 _ _) hx4 hx3 (fun c1 => w_f b90 d90_33 rfl rfl rfl <| w_ri b90 d90_34 r90 (h.1 c1)) (fun c1 => w_f b90 d90_9 rfl rfl rfl <| w_f b90 d90_10 rfl rfl rfl <| w_f b90 d90_11 rfl rfl rfl <| w_f b90 d90_13 rfl (pf_iadd x2 x4) rfl <| w_f b90 d90_14 rfl rfl rfl <| w_cc b90 d90_15 rfl (pcl_s1 (n := 2) rfl rfl rfl (by decide +kernel) rfl rfl) rfl <| c47 hs (h.2 c1).1 hx3 <| w_cc b90 d90_18 rfl (pcl_s1 (n := 2) rfl rfl rfl (by decide +kernel) rfl rfl) rfl <| c42 hs (h.2 c1).2.1 (h.2 c1).2.2.1 <| w_ifeqZ b90 d90_21 rfl rfl (p90 _ _) (fun c2 => w_f b90 d90_27 rfl (pf_iinc rfl rfl) rfl <| w_j b90 d90_30 rfl (p90 _ _) <| ((h.2 c1).2.2.2.1 c2)) (fun c2 => w_f b90 d90_24 rfl rfl rfl <| w_ri b90 d90_26 r90 ((h.2 c1).2.2.2.2 c2)))
theorem l90 {w : PW} {Q : PO → PW → Prop} {y0 : Int64} {x2 x3 : Int} (hs : Sh w) (hz : 0 ≤ x2 ∧ x2 < x3 ∧ x3 ≤ 64) (h : Q (.inl (some (iv (lWay y0 x2 x3)))) w) : ∀ k i : Nat, (i : Int) + 1 + k = x3 → (∀ j : Nat, j < i → tL y0 (wrp (x2 + (j + 1 : Nat)) x3).toNat = false) → pX 90 3 [some (.long y0), none, some (iv x2), some (iv x3), some (iv ((i + 1 : Nat) : Int))] [] w Q := by
  have hx2 : bd x2 := ⟨by omega, by omega⟩
  have hx3 : bd x3 := ⟨by omega, by omega⟩
  intro k
  induction k with
  | zero =>
    intro i hi hj
    refine v90_3 hs hx2 hx3 ⟨by omega, by omega⟩ ⟨fun _ => ?_, fun q => by omega⟩
    have e : fnd (fun i => tL y0 (wrp (x2 + (i + 1 : Nat)) x3).toNat) (x3 - 1).toNat = i := fnd_eq hj (by omega) (by omega)
    unfold lWay at h
    rw [e, show (i : Int) + 1 = x3 from by omega] at h
    exact h
  | succ k ih =>
    intro i hi hj
    have hw : 0 ≤ wrp (x2 + (i + 1 : Nat)) x3 ∧ wrp (x2 + (i + 1 : Nat)) x3 < x3 := by
      unfold wrp
      split <;> omega
    refine v90_3 hs hx2 hx3 ⟨by omega, by omega⟩ ⟨fun q => by omega, fun _ => ⟨⟨by omega, by omega⟩, ⟨by omega, by omega⟩, ⟨by omega, by omega⟩, fun q => ?_, fun q => ?_⟩⟩
    · refine ih (i + 1) (by omega) (fun j hj2 => ?_)
      by_cases e : j = i
      · subst e; exact Bool.eq_false_iff.mpr q
      · exact hj j (by omega)
    · have e : fnd (fun i => tL y0 (wrp (x2 + (i + 1 : Nat)) x3).toNat) (x3 - 1).toNat = i := fnd_eq hj (fun _ => q) (by omega)
      unfold lWay at h
      rw [e] at h
      exact h
theorem c90 {w : PW} {Q : PO → PW → Prop} {y0 : Int64} {x2 x3 : Int} (hs : Sh w) (hx2 : bd x2) (hx3 : bd x3) (hz : 0 ≤ x2 ∧ x2 < x3 ∧ x3 ≤ 64) (h : Q (.inl (some (iv (lWay y0 x2 x3)))) w) : pC 90 [.long y0, iv x2, iv x3] w Q :=
  e90 hs hx2 hx3 (l90 hs hz h (x3 - 1).toNat 0 (by omega) (fun j hj => absurd hj (Nat.not_lt_zero j)))
/-! 190: PinBarrel$Ring.mirrored(JI)J -/
theorem b190 : mB 190 = cX5_mirrored := rfl
theorem r190 : mR 190 = (some .long) := rfl
theorem p190 (a b : Nat) : phi 190 a ≤ phi 190 b := Nat.le_refl 0
theorem d190_0 : decode cX5_mirrored 0 = .ok (.lconst 0, 1) := by decide +kernel
theorem d190_1 : decode cX5_mirrored 1 = .ok (.lstore_n 3, 1) := by decide +kernel
theorem d190_2 : decode cX5_mirrored 2 = .ok (.iconst 0, 1) := by decide +kernel
theorem d190_3 : decode cX5_mirrored 3 = .ok (.istore 5, 2) := by decide +kernel
theorem d190_5 : decode cX5_mirrored 5 = .ok (.iload 5, 2) := by decide +kernel
theorem d190_7 : decode cX5_mirrored 7 = .ok (.iload_n 2, 1) := by decide +kernel
theorem d190_8 : decode cX5_mirrored 8 = .ok (.if_icmp .ge 29, 3) := by decide +kernel
theorem d190_11 : decode cX5_mirrored 11 = .ok (.lload_n 0, 1) := by decide +kernel
theorem d190_12 : decode cX5_mirrored 12 = .ok (.iload 5, 2) := by decide +kernel
theorem d190_14 : decode cX5_mirrored 14 = .ok (.invokestatic 17, 3) := by decide +kernel
theorem d190_17 : decode cX5_mirrored 17 = .ok (.ifCond .eq 14, 3) := by decide +kernel
theorem d190_20 : decode cX5_mirrored 20 = .ok (.lload_n 3, 1) := by decide +kernel
theorem d190_21 : decode cX5_mirrored 21 = .ok (.lconst 1, 1) := by decide +kernel
theorem d190_22 : decode cX5_mirrored 22 = .ok (.iload_n 2, 1) := by decide +kernel
theorem d190_23 : decode cX5_mirrored 23 = .ok (.iconst 1, 1) := by decide +kernel
theorem d190_24 : decode cX5_mirrored 24 = .ok (.isub, 1) := by decide +kernel
theorem d190_25 : decode cX5_mirrored 25 = .ok (.iload 5, 2) := by decide +kernel
theorem d190_27 : decode cX5_mirrored 27 = .ok (.isub, 1) := by decide +kernel
theorem d190_28 : decode cX5_mirrored 28 = .ok (.lshl, 1) := by decide +kernel
theorem d190_29 : decode cX5_mirrored 29 = .ok (.lor, 1) := by decide +kernel
theorem d190_30 : decode cX5_mirrored 30 = .ok (.lstore_n 3, 1) := by decide +kernel
theorem d190_31 : decode cX5_mirrored 31 = .ok (.iinc 5 1, 3) := by decide +kernel
theorem d190_34 : decode cX5_mirrored 34 = .ok (.goto (-29), 3) := by decide +kernel
theorem d190_37 : decode cX5_mirrored 37 = .ok (.lload_n 3, 1) := by decide +kernel
theorem d190_38 : decode cX5_mirrored 38 = .ok (.lreturn, 1) := by decide +kernel
theorem v190_0 {w : PW} {Q : PO → PW → Prop} {y0 : Int64} {x2 : Int} (hs : Sh w) (hx2 : bd x2) (h : pX 190 5 [some (.long y0), none, some (iv x2), some (.long ((0 : Int64))), none, some (iv 0)] [] w Q) : pX 190 0 [some (.long y0), none, some (iv x2), none, none, none] [] w Q :=
  w_f b190 d190_0 rfl rfl rfl <| w_f b190 d190_1 rfl rfl rfl <| w_f b190 d190_2 rfl rfl rfl <| w_f b190 d190_3 rfl rfl rfl <| h
theorem e190 {w : PW} {Q : PO → PW → Prop} {y0 : Int64} {x2 : Int} (hs : Sh w) (hx2 : bd x2) (h : pX 190 5 [some (.long y0), none, some (iv x2), some (.long ((0 : Int64))), none, some (iv 0)] [] w Q) : pC 190 [.long y0, iv x2] w Q :=
  (pC_in (Nat.le_of_ble_eq_true rfl) rfl Q).mpr (v190_0 hs hx2 h)
theorem v190_5 {w : PW} {Q : PO → PW → Prop} {y0 : Int64} {x2 : Int} {y3 : Int64} {x5 : Int} (hs : Sh w) (hx2 : bd x2) (hx5 : bd x5) (h : (x2 ≤ x5 → Q (.inl (some (.long y3))) w) ∧ (x5 < x2 → (0 ≤ x5 ∧ x5 < 64) ∧ ((¬ (tL y0 (x5).toNat = true)) → pX 190 5 [some (.long y0), none, some (iv x2), some (.long y3), none, some (iv (x5 + 1))] [] w Q) ∧ ((tL y0 (x5).toNat = true) → pX 190 5 [some (.long y0), none, some (iv x2), some (.long (y3 ||| (lShl ((1 : Int64)) ((x2 - 1) - x5)))), none, some (iv (x5 + 1))] [] w Q))) : pX 190 5 [some (.long y0), none, some (iv x2), some (.long y3), none, some (iv x5)] [] w Q :=
  w_f b190 d190_5 rfl rfl rfl <| w_f b190 d190_7 rfl rfl rfl <| w_icge b190 d190_8 rfl rfl (p190 _ _) hx5 hx2 (fun c1 => w_f b190 d190_37 rfl rfl rfl <| w_rl b190 d190_38 r190 (h.1 c1)) (fun c1 => w_f b190 d190_11 rfl rfl rfl <| w_f b190 d190_12 rfl rfl rfl <| w_cc b190 d190_14 rfl (pcl_s1 (n := 2) rfl rfl rfl (by decide +kernel) rfl rfl) rfl <| c42 hs hx5 (h.2 c1).1 <| w_ifeqZ b190 d190_17 rfl rfl (p190 _ _) (fun c2 => w_f b190 d190_31 rfl (pf_iinc rfl rfl) rfl <| w_j b190 d190_34 rfl (p190 _ _) <| ((h.2 c1).2.1 c2)) (fun c2 => w_f b190 d190_20 rfl rfl rfl <| w_f b190 d190_21 rfl rfl rfl <| w_f b190 d190_22 rfl rfl rfl <| w_f b190 d190_23 rfl rfl rfl <| w_f b190 d190_24 rfl (pf_isub x2 1) rfl <| w_f b190 d190_25 rfl rfl rfl <| w_f b190 d190_27 rfl (pf_isub (x2 - 1) x5) rfl <| w_f b190 d190_28 rfl rfl rfl <| w_f b190 d190_29 rfl rfl rfl <| w_f b190 d190_30 rfl rfl rfl <| w_f b190 d190_31 rfl (pf_iinc rfl rfl) rfl <| w_j b190 d190_34 rfl (p190 _ _) <| ((h.2 c1).2.2 c2)))
theorem l190 {w : PW} {Q : PO → PW → Prop} {y0 : Int64} {x2 : Int} (hs : Sh w) (hz : 0 ≤ x2 ∧ x2 ≤ 64) (h : Q (.inl (some (.long (lMir y0 x2)))) w) : ∀ k i : Nat, (i : Int) + k = x2 → pX 190 5 [some (.long y0), none, some (iv x2), some (.long (lMirN y0 x2 i)), none, some (iv (i : Int))] [] w Q := by
  have hx2 : bd x2 := ⟨by omega, by omega⟩
  intro k
  induction k with
  | zero =>
    intro i hi
    refine v190_5 hs hx2 ⟨by omega, by omega⟩ ⟨fun _ => ?_, fun q => by omega⟩
    unfold lMir at h
    rw [show x2.toNat = i from by omega] at h
    exact h
  | succ k ih =>
    intro i hi
    refine v190_5 hs hx2 ⟨by omega, by omega⟩ ⟨fun q => by omega, fun _ => ⟨⟨by omega, by omega⟩, fun q => ?_, fun q => ?_⟩⟩
    · have := ih (i + 1) (by omega)
      rw [show lMirN y0 x2 (i + 1) = lMirN y0 x2 i from if_neg q] at this
      exact this
    · have := ih (i + 1) (by omega)
      rw [show lMirN y0 x2 (i + 1) = lMirN y0 x2 i ||| lShl 1 (x2 - 1 - i) from if_pos q] at this
      exact this
theorem c190 {w : PW} {Q : PO → PW → Prop} {y0 : Int64} {x2 : Int} (hs : Sh w) (hx2 : bd x2) (hz : 0 ≤ x2 ∧ x2 ≤ 64) (h : Q (.inl (some (.long (lMir y0 x2)))) w) : pC 190 [.long y0, iv x2] w Q :=
  e190 hs hx2 (l190 hs hz h x2.toNat 0 (by omega))
