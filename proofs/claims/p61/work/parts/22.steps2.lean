/-! STEPS, 2: calls by name, natives, choices -/
theorem bxk {b : Nat} (hb : bx b) (k : Nat) (h : Nat.ble k 12 = true) : b + k < 182 := by
  have := bx_lt hb
  have := Nat.le_of_ble_eq_true h
  omega
theorem bx00 {b : Nat} (hb : bx b) : b < 182 := by
  have := bx_lt hb
  omega
theorem bxr {b : Nat} (hb : bx b) (k : Nat) (h : Nat.ble k 12 = true) : b + k ≠ 4242424 := by
  have := bxk hb k h
  omega
theorem bdix {z : Int} {n : Nat} (h : 0 ≤ z ∧ z < (n : Int)) (hn : Nat.blt n 2147483648 = true) : bd z := by
  have : n < 2147483648 := Nat.le_of_ble_eq_true hn
  exact ⟨by omega, by omega⟩
theorem sh_isOb {w : PW} (hs : Sh w) {a ci : Nat} {l : List (Option Nat)} (ha : a < 182) (ht : tb a = (0, ci, l)) : isOb w a ci = true := by
  obtain ⟨fs, he, -⟩ := sh_obj hs ha ht
  unfold isOb
  rw [he]
  exact Nat.beq_refl ci
section PCL
variable {M pc np : Nat} {cc : ByteArray} {i : Instr} {L L' : PL} {S S' : List Value} {w w' : PW} {ln : Nat} {Q : PO → PW → Prop} {M' a n idx : Nat} {as rest : List Value}
theorem pcl_v (hl : plk idx (kM (mC M)) = some (M', n, 0)) (hd : S.drop n = .ref a :: rest) (ht : (S.take n).reverse = as) (hok : pok M M' pc = true) (hob : isOb w a (mI M') = true) (hn : Nat.ble n S.length = true) (hr : Nat.ble rest.length 4 = true) : pcl M pc (.invokevirtual idx) S w = some (M', .ref a :: as, rest) := by
  unfold pcl
  simp only [hl, hd]
  rw [if_pos ⟨hok, hob, Nat.le_of_ble_eq_true hn, Nat.le_of_ble_eq_true hr⟩, ht]
theorem pcl_s1 (hl : plk idx (kM (mC M)) = some (M', n, 1)) (hd : S.drop n = rest) (ht : (S.take n).reverse = as) (hok : pok M M' pc = true) (hn : Nat.ble n S.length = true) (hr : Nat.ble rest.length 4 = true) : pcl M pc (.invokestatic idx) S w = some (M', as, rest) := by
  unfold pcl
  simp only [hl]
  rw [hd, if_pos ⟨hok, Nat.le_of_ble_eq_true hn, Nat.le_of_ble_eq_true hr⟩, ht]
theorem pcl_s4 (hl : plk idx (kM (mC M)) = some (M', n, 4)) (hd : S.drop n = rest) (ht : (S.take n).reverse = as) (hok : pok M M' pc = true) (hn : Nat.ble n S.length = true) (hr : Nat.ble rest.length 4 = true) : pcl M pc (.invokestatic idx) S w = some (M', as, rest) := by
  unfold pcl
  simp only [hl]
  rw [hd, if_pos ⟨hok, Nat.le_of_ble_eq_true hn, Nat.le_of_ble_eq_true hr⟩, ht]
theorem w_cc {args : List Value} (hB : mB M = cc) (hd : decode cc pc = .ok (i, 3)) (hk : pkd i = 5) (hc : pcl M pc i S w = some (M', args, rest)) (hn : np = pc + 3) (h : pC M' args w (pK M pc np L rest Q)) : pX M pc L S w Q := (pX_call hB hd hk hc hn Q).mpr h
/-! choices by a proposition -/
theorem w_ifeqZ {off : Int} {tgt : Nat} {P : Prop} [Decidable P] (hB : mB M = cc) (hd : decode cc pc = .ok (.ifCond .eq off, 3)) (hn : np = pc + 3) (ht : (pc : Int) + off = (tgt : Int)) (hp : phi M tgt ≤ phi M pc) (h1 : ¬ P → pX M tgt L S w Q) (h2 : P → pX M np L S w Q) : pX M pc L (iv (if P then 1 else 0) :: S) w Q := by
  refine w_ifeq hB hd hn ht hp ?_ (fun q => h1 fun hP => ?_) (fun q => h2 (Decidable.by_contra fun hP => ?_))
  · by_cases h : P
    · rw [if_pos h]; exact ⟨by decide, by decide⟩
    · rw [if_neg h]; exact ⟨by decide, by decide⟩
  · rw [if_pos hP] at q; exact absurd q (by decide)
  · rw [if_neg hP] at q; exact q rfl
theorem w_ifneZ {off : Int} {tgt : Nat} {P : Prop} [Decidable P] (hB : mB M = cc) (hd : decode cc pc = .ok (.ifCond .ne off, 3)) (hn : np = pc + 3) (ht : (pc : Int) + off = (tgt : Int)) (hp : phi M tgt ≤ phi M pc) (h1 : P → pX M tgt L S w Q) (h2 : ¬ P → pX M np L S w Q) : pX M pc L (iv (if P then 1 else 0) :: S) w Q := by
  refine w_ifne hB hd hn ht hp ?_ (fun q => h1 (Decidable.by_contra fun hP => ?_)) (fun q => h2 fun hP => ?_)
  · by_cases h : P
    · rw [if_pos h]; exact ⟨by decide, by decide⟩
    · rw [if_neg h]; exact ⟨by decide, by decide⟩
  · rw [if_neg hP] at q; exact q rfl
  · rw [if_pos hP] at q; exact absurd q (by decide)
theorem lCmp_eq {x y : Int64} : lCmp x y = 0 ↔ x = y := by
  unfold lCmp lg_cmp
  by_cases h1 : x > y
  · rw [if_pos h1]
    refine ⟨fun h => absurd h (by decide), fun h => ?_⟩
    rw [h] at h1
    exact absurd h1 (Int64.lt_irrefl)
  · rw [if_neg h1]
    by_cases h2 : x = y
    · rw [if_pos h2]
      exact ⟨fun _ => h2, fun _ => by decide⟩
    · rw [if_neg h2]
      exact ⟨fun h => absurd h (by decide), fun h => absurd h h2⟩
/-! natives -/
theorem w_max {x y : Int} (hB : mB M = cc) (hd : decode cc pc = .ok (.invokestatic idx, 3)) (hl : plk idx (kM (mC M)) = some (a, n, 6)) (hn : np = pc + 3) (hm : (Nat.ble 1 (mF M) && Nat.ble 21 (mLo M) && Nat.ble S.length 4) = true) (hx : bd x) (hy : bd y) (h : pX M np L (iv (max x y) :: S) w Q) : pX M pc L (iv y :: iv x :: S) w Q := by
  simp only [Bool.and_eq_true] at hm
  have e : iv (max x y) = .int (if Int32.ofInt x < Int32.ofInt y then Int32.ofInt y else Int32.ofInt x) := by
    by_cases q : x < y
    · rw [if_pos ((iv_lt hx hy).mpr q), Int.max_eq_right (by omega)]
    · rw [if_neg (fun z => q ((iv_lt hx hy).mp z)), Int.max_eq_left (by omega)]
  rw [e] at h
  refine w_n hB hd rfl ?_ (S' := .int _ :: S) (w' := w) ?_ hn h
  · unfold pcl
    simp only [hl]
  · unfold pna
    simp only [hl]
    rw [if_pos (by simp)]
    show (if 1 ≤ mF M ∧ 21 ≤ mLo M ∧ S.length ≤ 4 then _ else none) = _
    rw [if_pos ⟨Nat.le_of_ble_eq_true hm.1.1, Nat.le_of_ble_eq_true hm.1.2, Nat.le_of_ble_eq_true hm.2⟩]
theorem w_min {x y : Int} (hB : mB M = cc) (hd : decode cc pc = .ok (.invokestatic idx, 3)) (hl : plk idx (kM (mC M)) = some (a, n, 7)) (hn : np = pc + 3) (hm : (Nat.ble 1 (mF M) && Nat.ble 21 (mLo M) && Nat.ble S.length 4) = true) (hx : bd x) (hy : bd y) (h : pX M np L (iv (min x y) :: S) w Q) : pX M pc L (iv y :: iv x :: S) w Q := by
  simp only [Bool.and_eq_true] at hm
  have e : iv (min x y) = .int (if Int32.ofInt x < Int32.ofInt y then Int32.ofInt x else Int32.ofInt y) := by
    by_cases q : x < y
    · rw [if_pos ((iv_lt hx hy).mpr q), Int.min_eq_left (by omega)]
    · rw [if_neg (fun z => q ((iv_lt hx hy).mp z)), Int.min_eq_right (by omega)]
  rw [e] at h
  refine w_n hB hd rfl ?_ (S' := .int _ :: S) (w' := w) ?_ hn h
  · unfold pcl
    simp only [hl]
  · unfold pna
    simp only [hl]
    rw [if_pos (by simp)]
    show (if 1 ≤ mF M ∧ 21 ≤ mLo M ∧ S.length ≤ 4 then _ else none) = _
    rw [if_pos ⟨Nat.le_of_ble_eq_true hm.1.1, Nat.le_of_ble_eq_true hm.1.2, Nat.le_of_ble_eq_true hm.2⟩]
/-- a copied stretch, from place 0 on to place 0 on -/
def sCp (w : PW) (a0 a : Nat) (n : Nat) : PW := match w.2.2 a0, w.2.2 a with
  | .inl (_, _, .inl f), .inl (t, m, .inl g) => pup w a (.inl (t, m, .inl (va_cpy f g 0 0 n)))
  | .inl (_, _, .inr (.inl f)), .inl (t, m, .inr (.inl g)) => pup w a (.inl (t, m, .inr (.inl (va_cpy f g 0 0 n))))
  | _, _ => w
theorem Sh_sCp {w : PW} (hs : Sh w) {a0 a n : Nat} : Sh (sCp w a0 a n) := by
  unfold sCp
  split
  · rename_i he
    refine sh_pup hs ?_
    rw [he]
    rfl
  · rename_i he
    refine sh_pup hs ?_
    rw [he]
    rfl
  · exact hs
theorem gI_sCp {w : PW} (hs : Sh w) {a0 a n n0 n1 : Nat} (h0 : a0 < 182) (ht0 : tb a0 = (1, 0, [some n0])) (h1 : a < 182) (ht1 : tb a = (1, 0, [some n1])) (b k : Nat) : gI (sCp w a0 a n) b k = if b = a ∧ k < n then gI w a0 k else gI w b k := by
  obtain ⟨f, hf⟩ := sh_int hs h0 ht0
  obtain ⟨g, hg⟩ := sh_int hs h1 ht1
  have e : sCp w a0 a n = pup w a (.inl (0, n1, .inl (va_cpy f g 0 0 n))) := by unfold sCp; rw [hf, hg]
  rw [e]
  by_cases q : b = a
  · subst q
    unfold gI
    rw [pup_at, if_pos rfl, hg, hf]
    show (va_cpy f g 0 0 n k).toInt = if b = b ∧ k < n then (f k).toInt else (g k).toInt
    unfold va_cpy
    by_cases q2 : k < n
    · rw [if_pos ⟨Nat.zero_le _, by omega⟩, if_pos ⟨rfl, q2⟩]
      congr 2
      omega
    · rw [if_neg (by omega), if_neg (by omega)]
  · rw [if_neg (fun z => q z.1)]
    unfold gI
    rw [pup_at, if_neg q]
theorem gL_sCpI {w : PW} (hs : Sh w) {a0 a n n0 n1 : Nat} (h0 : a0 < 182) (ht0 : tb a0 = (1, 0, [some n0])) (h1 : a < 182) (ht1 : tb a = (1, 0, [some n1])) (b k : Nat) : gL (sCp w a0 a n) b k = gL w b k := by
  obtain ⟨f, hf⟩ := sh_int hs h0 ht0
  obtain ⟨g, hg⟩ := sh_int hs h1 ht1
  have e : sCp w a0 a n = pup w a (.inl (0, n1, .inl (va_cpy f g 0 0 n))) := by unfold sCp; rw [hf, hg]
  rw [e]
  unfold gL
  rw [pup_at]
  by_cases q : b = a
  · rw [if_pos q, q, hg]
  · rw [if_neg q]
theorem gL_sCp {w : PW} (hs : Sh w) {a0 a n n0 n1 : Nat} (h0 : a0 < 182) (ht0 : tb a0 = (3, 1, [some n0])) (h1 : a < 182) (ht1 : tb a = (3, 1, [some n1])) (b k : Nat) : gL (sCp w a0 a n) b k = if b = a ∧ k < n then gL w a0 k else gL w b k := by
  obtain ⟨f, hf⟩ := sh_long hs h0 ht0
  obtain ⟨g, hg⟩ := sh_long hs h1 ht1
  have e : sCp w a0 a n = pup w a (.inl (1, n1, .inr (.inl (va_cpy f g 0 0 n)))) := by unfold sCp; rw [hf, hg]
  rw [e]
  by_cases q : b = a
  · subst q
    unfold gL
    rw [pup_at, if_pos rfl, hg, hf]
    show va_cpy f g 0 0 n k = if b = b ∧ k < n then f k else g k
    unfold va_cpy
    by_cases q2 : k < n
    · rw [if_pos ⟨Nat.zero_le _, by omega⟩, if_pos ⟨rfl, q2⟩]
      congr 1
      omega
    · rw [if_neg (by omega), if_neg (by omega)]
  · rw [if_neg (fun z => q z.1)]
    unfold gL
    rw [pup_at, if_neg q]
theorem gI_sCpL {w : PW} (hs : Sh w) {a0 a n n0 n1 : Nat} (h0 : a0 < 182) (ht0 : tb a0 = (3, 1, [some n0])) (h1 : a < 182) (ht1 : tb a = (3, 1, [some n1])) (b k : Nat) : gI (sCp w a0 a n) b k = gI w b k := by
  obtain ⟨f, hf⟩ := sh_long hs h0 ht0
  obtain ⟨g, hg⟩ := sh_long hs h1 ht1
  have e : sCp w a0 a n = pup w a (.inl (1, n1, .inr (.inl (va_cpy f g 0 0 n)))) := by unfold sCp; rw [hf, hg]
  rw [e]
  unfold gI
  rw [pup_at]
  by_cases q : b = a
  · rw [if_pos q, q, hg]
  · rw [if_neg q]
theorem iv_nn {z : Int} (hb : bd z) (h : 0 ≤ z) : ¬ Int32.ofInt z < 0 ∧ (Int32.ofInt z).toNatClampNeg = z.toNat :=
  ⟨fun q => by have := (iv_lt hb bd0).mp q; omega, Int32.toNatClampNeg_ofInt_of_le (by have := hb.1; omega) (by have := hb.2; omega)⟩
theorem w_acp0 {a0 n0 n1 m : Nat} {z : Int} (hB : mB M = cc) (hd : decode cc pc = .ok (.invokestatic idx, 3)) (hl : plk idx (kM (mC M)) = some (m, n, 8)) (hn : np = pc + 3) (hm : (Nat.ble 1 (mF M) && Nat.ble 26 (mLo M) && Nat.ble S.length 4) = true) (hb : bd z) (hc : ∀ w', pcpy w a0 a (Int32.ofInt 0) (Int32.ofInt 0) (Int32.ofInt z) = some w' → pX M np L S w' Q) (hs : ∃ w', pcpy w a0 a (Int32.ofInt 0) (Int32.ofInt 0) (Int32.ofInt z) = some w') : pX M pc L (iv z :: iv 0 :: .ref a :: iv 0 :: .ref a0 :: S) w Q := by
  simp only [Bool.and_eq_true] at hm
  obtain ⟨w', hw⟩ := hs
  refine w_n hB hd rfl ?_ (S' := S) (w' := w') ?_ hn (hc w' hw)
  · unfold pcl
    simp only [hl]
  · unfold pna
    simp only [hl]
    rw [if_pos (by simp)]
    show (if 1 ≤ mF M ∧ 26 ≤ mLo M ∧ S.length ≤ 4 then match pcpy w a0 a (Int32.ofInt 0) (Int32.ofInt 0) (Int32.ofInt z) with | some w' => some (S, w') | none => none else none) = _
    rw [if_pos ⟨Nat.le_of_ble_eq_true hm.1.1, Nat.le_of_ble_eq_true hm.1.2, Nat.le_of_ble_eq_true hm.2⟩, hw]
theorem w_acpI {a0 n0 n1 m : Nat} {z : Int} (hB : mB M = cc) (hd : decode cc pc = .ok (.invokestatic idx, 3)) (hl : plk idx (kM (mC M)) = some (m, n, 8)) (hn : np = pc + 3) (hm : (Nat.ble 1 (mF M) && Nat.ble 26 (mLo M) && Nat.ble S.length 4) = true) (hs : Sh w) (h0 : a0 < 182) (ht0 : tb a0 = (1, 0, [some n0])) (h1 : a < 182) (ht1 : tb a = (1, 0, [some n1])) (hb : bd z) (hz : 0 ≤ z ∧ z ≤ n0 ∧ z ≤ n1) (h : pX M np L S (sCp w a0 a z.toNat) Q) : pX M pc L (iv z :: iv 0 :: .ref a :: iv 0 :: .ref a0 :: S) w Q := by
  obtain ⟨f, hf⟩ := sh_int hs h0 ht0
  obtain ⟨g, hg⟩ := sh_int hs h1 ht1
  obtain ⟨e1, e2⟩ := iv_nn hb hz.1
  have e3 : ¬ Int32.ofInt 0 < 0 := by decide
  have e4 : (Int32.ofInt 0).toNatClampNeg = 0 := by decide
  have e : pcpy w a0 a (Int32.ofInt 0) (Int32.ofInt 0) (Int32.ofInt z) = some (sCp w a0 a z.toNat) := by
    unfold pcpy
    rw [if_neg (fun q => q.elim e3 (fun q => q.elim e3 e1)), pai_of hf, pai_of hg]
    dsimp only
    rw [e2, e4, if_pos ⟨by omega, by omega⟩]
    unfold sCp
    rw [hf, hg]
  exact w_acp0 (n0 := n0) (n1 := n1) hB hd hl hn hm hb (fun w' hw => by rw [e] at hw; cases hw; exact h) ⟨_, e⟩
theorem w_acpL {a0 n0 n1 m : Nat} {z : Int} (hB : mB M = cc) (hd : decode cc pc = .ok (.invokestatic idx, 3)) (hl : plk idx (kM (mC M)) = some (m, n, 8)) (hn : np = pc + 3) (hm : (Nat.ble 1 (mF M) && Nat.ble 26 (mLo M) && Nat.ble S.length 4) = true) (hs : Sh w) (h0 : a0 < 182) (ht0 : tb a0 = (3, 1, [some n0])) (h1 : a < 182) (ht1 : tb a = (3, 1, [some n1])) (hb : bd z) (hz : 0 ≤ z ∧ z ≤ n0 ∧ z ≤ n1) (h : pX M np L S (sCp w a0 a z.toNat) Q) : pX M pc L (iv z :: iv 0 :: .ref a :: iv 0 :: .ref a0 :: S) w Q := by
  obtain ⟨f, hf⟩ := sh_long hs h0 ht0
  obtain ⟨g, hg⟩ := sh_long hs h1 ht1
  obtain ⟨e1, e2⟩ := iv_nn hb hz.1
  have e3 : ¬ Int32.ofInt 0 < 0 := by decide
  have e4 : (Int32.ofInt 0).toNatClampNeg = 0 := by decide
  have p0 : pai w a0 0 = none := by unfold pai; rw [hf]
  have pL0 : paL w a0 = some (n0, f) := by unfold paL; rw [hf]; exact if_pos rfl
  have pL1 : paL w a = some (n1, g) := by unfold paL; rw [hg]; exact if_pos rfl
  have e : pcpy w a0 a (Int32.ofInt 0) (Int32.ofInt 0) (Int32.ofInt z) = some (sCp w a0 a z.toNat) := by
    unfold pcpy
    rw [if_neg (fun q => q.elim e3 (fun q => q.elim e3 e1)), p0, pL0, pL1]
    dsimp only
    rw [e2, e4, if_pos ⟨by omega, by omega⟩]
    unfold sCp
    rw [hf, hg]
  exact w_acp0 (n0 := n0) (n1 := n1) hB hd hl hn hm hb (fun w' hw => by rw [e] at hw; cases hw; exact h) ⟨_, e⟩
theorem w_slen {r : Nat} (hB : mB M = cc) (hd : decode cc pc = .ok (.invokevirtual idx, 3)) (hl : plk idx (kM (mC M)) = some (a, n, 9)) (hn : np = pc + 3) (hr : r < 38) (hm : (Nat.ble 3 (mF M) && Nat.ble 100 (mLo M) && Nat.ble S.length 4) = true) (h : pX M np L (iv (sTx.getD r []).length :: S) w Q) : pX M pc L (.ref (pSB + r) :: S) w Q := by
  simp only [Bool.and_eq_true] at hm
  have e : iv ((sTx.getD r []).length : Int) = .int (Int32.ofNat (sTx.getD r []).length) := congrArg Value.int Int32.ofInt_eq_ofNat
  rw [e] at h
  refine w_n hB hd rfl ?_ (S' := .int _ :: S) (w' := w) ?_ hn h
  · unfold pcl
    simp only [hl]
  · unfold pna
    simp only [hl]
    rw [if_pos (by simp)]
    show (if pSB ≤ pSB + r ∧ pSB + r < pSB + sTx.length ∧ 3 ≤ mF M ∧ 100 ≤ mLo M ∧ S.length ≤ 4 then some (Value.int (Int32.ofNat (pstr (pSB + r)).length) :: S, w) else _) = _
    have e2 : sTx.length = 38 := by decide
    rw [if_pos ⟨Nat.le_add_right _ _, by rw [e2]; omega, Nat.le_of_ble_eq_true hm.1.1, Nat.le_of_ble_eq_true hm.1.2, Nat.le_of_ble_eq_true hm.2⟩]
    unfold pstr
    rw [Nat.add_sub_cancel_left]
theorem w_chat {r : Nat} {z : Int} (hB : mB M = cc) (hd : decode cc pc = .ok (.invokevirtual idx, 3)) (hl : plk idx (kM (mC M)) = some (a, n, 10)) (hn : np = pc + 3) (hr : r < 38) (hm : (Nat.ble 6 (mF M) && Nat.ble 160 (mLo M) && Nat.ble S.length 4) = true) (hb : bd z) (hz : 0 ≤ z ∧ z < (sTx.getD r []).length) (h : pX M np L (iv ((sTx.getD r []).getD z.toNat 0 : Nat) :: S) w Q) : pX M pc L (iv z :: .ref (pSB + r) :: S) w Q := by
  simp only [Bool.and_eq_true] at hm
  obtain ⟨e3, e4⟩ := iv_nn hb hz.1
  have e : iv (((sTx.getD r []).getD z.toNat 0 : Nat) : Int) = .int (Int32.ofNat ((sTx.getD r []).getD z.toNat 0)) := congrArg Value.int Int32.ofInt_eq_ofNat
  rw [e] at h
  refine w_n hB hd rfl ?_ (S' := .int _ :: S) (w' := w) ?_ hn h
  · unfold pcl
    simp only [hl]
  · unfold pna
    simp only [hl]
    rw [if_pos (by simp)]
    show (if pSB ≤ pSB + r ∧ pSB + r < pSB + sTx.length ∧ 6 ≤ mF M ∧ 160 ≤ mLo M ∧ S.length ≤ 4 ∧ ¬ Int32.ofInt z < 0 ∧ (Int32.ofInt z).toNatClampNeg < (pstr (pSB + r)).length then some (Value.int (Int32.ofNat ((pstr (pSB + r)).getD (Int32.ofInt z).toNatClampNeg 0)) :: S, w) else _) = _
    have e2 : sTx.length = 38 := by decide
    have e5 : pstr (pSB + r) = sTx.getD r [] := by unfold pstr; rw [Nat.add_sub_cancel_left]
    rw [e5, e4, if_pos ⟨Nat.le_add_right _ _, by rw [e2]; omega, Nat.le_of_ble_eq_true hm.1.1, Nat.le_of_ble_eq_true hm.1.2, Nat.le_of_ble_eq_true hm.2, e3, by omega⟩]
/-- 'throw new' -/
theorem w_th {E : Nat} (hB : mB M = cc) (hd : decode cc pc = .ok (.new idx, 3)) (hw : w.1 = pNA) (hk : plk idx (kE (mC M)) = some E) (h0 : plk idx (kN (mC M)) = none) (hm : true = true) (h : Q (.inr E) w) : pX M pc L S w Q := by
  refine (pX_t hB hd ?_ ?_ Q).mpr h
  · unfold psw
    dsimp only
    rw [h0]
  · unfold pth
    dsimp only
    rw [hk]
end PCL
