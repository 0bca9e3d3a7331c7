/-! STEPS of the pure machine over the view -/
def iAnd (x y : Int) : Int := (Int32.ofInt x &&& Int32.ofInt y).toInt
def iOr (x y : Int) : Int := (Int32.ofInt x ||| Int32.ofInt y).toInt
def iXor (x y : Int) : Int := (Int32.ofInt x ^^^ Int32.ofInt y).toInt
def iShl (x y : Int) : Int := (Int32.ofInt x <<< (Int32.ofInt y &&& 31)).toInt
def iShr (x y : Int) : Int := (Int32.ofInt x >>> (Int32.ofInt y &&& 31)).toInt
def iUsh (x y : Int) : Int := ((Int32.ofInt x).toUInt32 >>> ((Int32.ofInt y).toUInt32 &&& Int32.toUInt32 31)).toInt32.toInt
def lShl (x : Int64) (y : Int) : Int64 := x <<< ((Int32.ofInt y).toInt64 &&& 63)
def lShr (x : Int64) (y : Int) : Int64 := x >>> ((Int32.ofInt y).toInt64 &&& 63)
def lUsh (x : Int64) (y : Int) : Int64 := (x.toUInt64 >>> ((Int32.ofInt y).toInt64.toUInt64 &&& Int64.toUInt64 63)).toInt64
def i2L (x : Int) : Int64 := (Int32.ofInt x).toInt64
def l2I (x : Int64) : Int := x.toInt32.toInt
def i2B (x : Int) : Int := (Int32.ofInt x).toInt8.toInt32.toInt
def i2C (x : Int) : Int := ((Int32.ofInt x).toUInt32 % 65536).toInt32.toInt
def lCmp (x y : Int64) : Int := (lg_cmp x y).toInt
section PF
variable {L : PL} {S : List Value}
theorem pf_iadd (x y : Int) : pf .iadd L (iv y :: iv x :: S) = some (1, L, iv (x + y) :: S) := by
  show some (1, L, Value.int (Int32.ofInt x + Int32.ofInt y) :: S) = _
  rw [← Int32.ofInt_add]
theorem pf_isub (x y : Int) : pf .isub L (iv y :: iv x :: S) = some (1, L, iv (x - y) :: S) := by
  show some (1, L, Value.int (Int32.ofInt x - Int32.ofInt y) :: S) = _
  rw [← Int32.ofInt_sub]
theorem pf_imul (x y : Int) : pf .imul L (iv y :: iv x :: S) = some (1, L, iv (x * y) :: S) := by
  show some (1, L, Value.int (Int32.ofInt x * Int32.ofInt y) :: S) = _
  rw [← Int32.ofInt_mul]
theorem iv_ne0 {y : Int} (h : 0 < y ∧ y < 2147483648) : ¬ Int32.ofInt y = 0 := by
  intro q
  have e : (Int32.ofInt y).toInt = y := toInt_iv ⟨by omega, h.2⟩
  rw [q] at e
  have : (0 : Int32).toInt = 0 := by decide
  omega
theorem bd_mm {x : Int} (h : bd x) : Int32.minValue.toInt ≤ x ∧ x ≤ Int32.maxValue.toInt := by
  have e1 : Int32.minValue.toInt = -2147483648 := by decide
  have e2 : Int32.maxValue.toInt = 2147483647 := by decide
  have := h.1
  have := h.2
  omega
theorem pf_idiv {x y : Int} (hx : bd x) (hy : 0 < y ∧ y < 2147483648) : pf .idiv L (iv y :: iv x :: S) = some (1, L, iv (x.tdiv y) :: S) := by
  show (if Int32.ofInt y = 0 then none else some (1, L, Value.int (Int32.ofInt x / Int32.ofInt y) :: S)) = _
  rw [if_neg (iv_ne0 hy), ← Int32.ofInt_tdiv (bd_mm hx).1 (bd_mm hx).2 (bd_mm (x := y) ⟨by omega, hy.2⟩).1 (bd_mm (x := y) ⟨by omega, hy.2⟩).2]
theorem pf_irem {x y : Int} (hx : bd x) (hy : 0 < y ∧ y < 2147483648) : pf .irem L (iv y :: iv x :: S) = some (1, L, iv (x.tmod y) :: S) := by
  show (if Int32.ofInt y = 0 then none else some (1, L, Value.int (Int32.ofInt x - Int32.ofInt x / Int32.ofInt y * Int32.ofInt y) :: S)) = _
  rw [if_neg (iv_ne0 hy), ← Int32.ofInt_tdiv (bd_mm hx).1 (bd_mm hx).2 (bd_mm (x := y) ⟨by omega, hy.2⟩).1 (bd_mm (x := y) ⟨by omega, hy.2⟩).2, ← Int32.ofInt_mul, ← Int32.ofInt_sub, Int.tmod_def, Int.mul_comm y]
theorem pf_iand (x y : Int) : pf .iand L (iv y :: iv x :: S) = some (1, L, iv (iAnd x y) :: S) := by unfold iAnd; rw [iv_toInt]; rfl
theorem pf_ior (x y : Int) : pf .ior L (iv y :: iv x :: S) = some (1, L, iv (iOr x y) :: S) := by unfold iOr; rw [iv_toInt]; rfl
theorem pf_ixor (x y : Int) : pf .ixor L (iv y :: iv x :: S) = some (1, L, iv (iXor x y) :: S) := by unfold iXor; rw [iv_toInt]; rfl
theorem pf_ishl (x y : Int) : pf .ishl L (iv y :: iv x :: S) = some (1, L, iv (iShl x y) :: S) := by unfold iShl; rw [iv_toInt]; rfl
theorem pf_ishr (x y : Int) : pf .ishr L (iv y :: iv x :: S) = some (1, L, iv (iShr x y) :: S) := by unfold iShr; rw [iv_toInt]; rfl
theorem pf_iushr (x y : Int) : pf .iushr L (iv y :: iv x :: S) = some (1, L, iv (iUsh x y) :: S) := by unfold iUsh; rw [iv_toInt]; rfl
theorem pf_l2i (x : Int64) : pf .l2i L (.long x :: S) = some (1, L, iv (l2I x) :: S) := by unfold l2I; rw [iv_toInt]; rfl
theorem pf_i2b (x : Int) : pf .i2b L (iv x :: S) = some (1, L, iv (i2B x) :: S) := by unfold i2B; rw [iv_toInt]; rfl
theorem pf_i2c (x : Int) : pf .i2c L (iv x :: S) = some (1, L, iv (i2C x) :: S) := by unfold i2C; rw [iv_toInt]; rfl
theorem pf_lcmp (x y : Int64) : pf .lcmp L (.long y :: .long x :: S) = some (1, L, iv (lCmp x y) :: S) := by unfold lCmp; rw [iv_toInt]; rfl
theorem pf_iinc {k : Nat} {n : Int} {z : Int} {L' : PL} (h : L.getD k none = some (iv z)) (hL : pst1 L k (iv (z + n)) = L') : pf (.iinc k n) L S = some (3, L', S) := by
  subst hL
  show (match L.getD k none with | some (.int x) => some (3, pst1 L k (.int (x + Int32.ofInt n)), S) | _ => none) = _
  rw [h]
  show some (3, pst1 L k (.int (Int32.ofInt z + Int32.ofInt n)), S) = _
  rw [← Int32.ofInt_add]
end PF
section WS
variable {M pc np : Nat} {cc : ByteArray} {i : Instr} {L L' : PL} {S S' : List Value} {w w' : PW} {ln : Nat} {Q : PO → PW → Prop}
theorem w_f (hB : mB M = cc) (hd : decode cc pc = .ok (i, ln)) (hk : pkd i = 0) (hf : pf i L S = some (ln, L', S')) (hn : np = pc + ln) (h : pX M np L' S' w Q) : pX M pc L S w Q := (pX_f hB hd hk hf hn Q).mpr h
theorem w_j {off : Int} {tgt : Nat} (hB : mB M = cc) (hd : decode cc pc = .ok (.goto off, 3)) (ht : (pc : Int) + off = (tgt : Int)) (hp : phi M tgt ≤ phi M pc) (h : pX M tgt L S w Q) : pX M pc L S w Q := (pX_j hB hd rfl rfl (Or.inl rfl) ht hp Q).mpr h
theorem w_br {tk : Bool} {off : Int} {tgt : Nat} (hB : mB M = cc) (hd : decode cc pc = .ok (i, 3)) (hk : pkd i = 1) (hf : pb i S = some (tk, off, 3, S')) (hn : np = pc + 3) (ht : (pc : Int) + off = (tgt : Int)) (hp : phi M tgt ≤ phi M pc) (h1 : tk = true → pX M tgt L S' w Q) (h2 : tk = false → pX M np L S' w Q) : pX M pc L S w Q := by
  rw [pX_b hB hd hk hf hn ht hp Q]
  cases tk with
  | true => rw [if_pos rfl]; exact h1 rfl
  | false => rw [if_neg (by decide)]; exact h2 rfl
variable {x y : Int} {off : Int} {tgt : Nat}
theorem iv_lt (hx : bd x) (hy : bd y) : Int32.ofInt x < Int32.ofInt y ↔ x < y := Int32.ofInt_lt_iff_lt (bd_mm hx).1 (bd_mm hx).2 (bd_mm hy).1 (bd_mm hy).2
theorem iv_le (hx : bd x) (hy : bd y) : Int32.ofInt x ≤ Int32.ofInt y ↔ x ≤ y := Int32.ofInt_le_iff_le (bd_mm hx).1 (bd_mm hx).2 (bd_mm hy).1 (bd_mm hy).2
theorem iv_eq (hx : bd x) (hy : bd y) : Int32.ofInt x = Int32.ofInt y ↔ x = y := ⟨fun h => by
  have := congrArg Int32.toInt h
  rwa [toInt_iv hx, toInt_iv hy] at this, fun h => by rw [h]⟩
abbrev bd0 : bd 0 := ⟨by decide, by decide⟩
theorem w_iflt (hB : mB M = cc) (hd : decode cc pc = .ok (.ifCond .lt off, 3)) (hn : np = pc + 3) (ht : (pc : Int) + off = (tgt : Int)) (hp : phi M tgt ≤ phi M pc) (hx : bd x) (h1 : x < 0 → pX M tgt L S w Q) (h2 : 0 ≤ x → pX M np L S w Q) : pX M pc L (iv x :: S) w Q :=
  w_br hB hd rfl rfl hn ht hp (fun q => h1 ((iv_lt hx bd0).mp (of_decide_eq_true q))) (fun q => h2 (by have := mt (iv_lt hx bd0).mpr (of_decide_eq_false q); omega))
theorem w_ifge (hB : mB M = cc) (hd : decode cc pc = .ok (.ifCond .ge off, 3)) (hn : np = pc + 3) (ht : (pc : Int) + off = (tgt : Int)) (hp : phi M tgt ≤ phi M pc) (hx : bd x) (h1 : 0 ≤ x → pX M tgt L S w Q) (h2 : x < 0 → pX M np L S w Q) : pX M pc L (iv x :: S) w Q :=
  w_br hB hd rfl rfl hn ht hp (fun q => h1 ((iv_le bd0 hx).mp (of_decide_eq_true q))) (fun q => h2 (by have := mt (iv_le bd0 hx).mpr (of_decide_eq_false q); omega))
theorem w_ifgt (hB : mB M = cc) (hd : decode cc pc = .ok (.ifCond .gt off, 3)) (hn : np = pc + 3) (ht : (pc : Int) + off = (tgt : Int)) (hp : phi M tgt ≤ phi M pc) (hx : bd x) (h1 : 0 < x → pX M tgt L S w Q) (h2 : x ≤ 0 → pX M np L S w Q) : pX M pc L (iv x :: S) w Q :=
  w_br hB hd rfl rfl hn ht hp (fun q => h1 ((iv_lt bd0 hx).mp (of_decide_eq_true q))) (fun q => h2 (by have := mt (iv_lt bd0 hx).mpr (of_decide_eq_false q); omega))
theorem w_ifle (hB : mB M = cc) (hd : decode cc pc = .ok (.ifCond .le off, 3)) (hn : np = pc + 3) (ht : (pc : Int) + off = (tgt : Int)) (hp : phi M tgt ≤ phi M pc) (hx : bd x) (h1 : x ≤ 0 → pX M tgt L S w Q) (h2 : 0 < x → pX M np L S w Q) : pX M pc L (iv x :: S) w Q :=
  w_br hB hd rfl rfl hn ht hp (fun q => h1 ((iv_le hx bd0).mp (of_decide_eq_true q))) (fun q => h2 (by have := mt (iv_le hx bd0).mpr (of_decide_eq_false q); omega))
theorem w_ifeq (hB : mB M = cc) (hd : decode cc pc = .ok (.ifCond .eq off, 3)) (hn : np = pc + 3) (ht : (pc : Int) + off = (tgt : Int)) (hp : phi M tgt ≤ phi M pc) (hx : bd x) (h1 : x = 0 → pX M tgt L S w Q) (h2 : x ≠ 0 → pX M np L S w Q) : pX M pc L (iv x :: S) w Q :=
  w_br hB hd rfl rfl hn ht hp (fun q => h1 ((iv_eq hx bd0).mp (of_decide_eq_true q))) (fun q => h2 (mt (iv_eq hx bd0).mpr (of_decide_eq_false q)))
theorem w_ifne (hB : mB M = cc) (hd : decode cc pc = .ok (.ifCond .ne off, 3)) (hn : np = pc + 3) (ht : (pc : Int) + off = (tgt : Int)) (hp : phi M tgt ≤ phi M pc) (hx : bd x) (h1 : x ≠ 0 → pX M tgt L S w Q) (h2 : x = 0 → pX M np L S w Q) : pX M pc L (iv x :: S) w Q :=
  w_br hB hd rfl rfl hn ht hp (fun q => h1 (mt (iv_eq hx bd0).mpr (of_decide_eq_true q))) (fun q => h2 ((iv_eq hx bd0).mp (Decidable.of_not_not (of_decide_eq_false q))))
theorem w_iclt (hB : mB M = cc) (hd : decode cc pc = .ok (.if_icmp .lt off, 3)) (hn : np = pc + 3) (ht : (pc : Int) + off = (tgt : Int)) (hp : phi M tgt ≤ phi M pc) (hx : bd x) (hy : bd y) (h1 : x < y → pX M tgt L S w Q) (h2 : y ≤ x → pX M np L S w Q) : pX M pc L (iv y :: iv x :: S) w Q :=
  w_br hB hd rfl rfl hn ht hp (fun q => h1 ((iv_lt hx hy).mp (of_decide_eq_true q))) (fun q => h2 (by have := mt (iv_lt hx hy).mpr (of_decide_eq_false q); omega))
theorem w_icge (hB : mB M = cc) (hd : decode cc pc = .ok (.if_icmp .ge off, 3)) (hn : np = pc + 3) (ht : (pc : Int) + off = (tgt : Int)) (hp : phi M tgt ≤ phi M pc) (hx : bd x) (hy : bd y) (h1 : y ≤ x → pX M tgt L S w Q) (h2 : x < y → pX M np L S w Q) : pX M pc L (iv y :: iv x :: S) w Q :=
  w_br hB hd rfl rfl hn ht hp (fun q => h1 ((iv_le hy hx).mp (of_decide_eq_true q))) (fun q => h2 (by have := mt (iv_le hy hx).mpr (of_decide_eq_false q); omega))
theorem w_icgt (hB : mB M = cc) (hd : decode cc pc = .ok (.if_icmp .gt off, 3)) (hn : np = pc + 3) (ht : (pc : Int) + off = (tgt : Int)) (hp : phi M tgt ≤ phi M pc) (hx : bd x) (hy : bd y) (h1 : y < x → pX M tgt L S w Q) (h2 : x ≤ y → pX M np L S w Q) : pX M pc L (iv y :: iv x :: S) w Q :=
  w_br hB hd rfl rfl hn ht hp (fun q => h1 ((iv_lt hy hx).mp (of_decide_eq_true q))) (fun q => h2 (by have := mt (iv_lt hy hx).mpr (of_decide_eq_false q); omega))
theorem w_icle (hB : mB M = cc) (hd : decode cc pc = .ok (.if_icmp .le off, 3)) (hn : np = pc + 3) (ht : (pc : Int) + off = (tgt : Int)) (hp : phi M tgt ≤ phi M pc) (hx : bd x) (hy : bd y) (h1 : x ≤ y → pX M tgt L S w Q) (h2 : y < x → pX M np L S w Q) : pX M pc L (iv y :: iv x :: S) w Q :=
  w_br hB hd rfl rfl hn ht hp (fun q => h1 ((iv_le hx hy).mp (of_decide_eq_true q))) (fun q => h2 (by have := mt (iv_le hx hy).mpr (of_decide_eq_false q); omega))
theorem w_iceq (hB : mB M = cc) (hd : decode cc pc = .ok (.if_icmp .eq off, 3)) (hn : np = pc + 3) (ht : (pc : Int) + off = (tgt : Int)) (hp : phi M tgt ≤ phi M pc) (hx : bd x) (hy : bd y) (h1 : x = y → pX M tgt L S w Q) (h2 : x ≠ y → pX M np L S w Q) : pX M pc L (iv y :: iv x :: S) w Q :=
  w_br hB hd rfl rfl hn ht hp (fun q => h1 ((iv_eq hx hy).mp (of_decide_eq_true q))) (fun q => h2 (mt (iv_eq hx hy).mpr (of_decide_eq_false q)))
theorem w_icne (hB : mB M = cc) (hd : decode cc pc = .ok (.if_icmp .ne off, 3)) (hn : np = pc + 3) (ht : (pc : Int) + off = (tgt : Int)) (hp : phi M tgt ≤ phi M pc) (hx : bd x) (hy : bd y) (h1 : x ≠ y → pX M tgt L S w Q) (h2 : x = y → pX M np L S w Q) : pX M pc L (iv y :: iv x :: S) w Q :=
  w_br hB hd rfl rfl hn ht hp (fun q => h1 (mt (iv_eq hx hy).mpr (of_decide_eq_true q))) (fun q => h2 ((iv_eq hx hy).mp (Decidable.of_not_not (of_decide_eq_false q))))
/-- a switch, outside or at a place of its table -/
theorem w_tsO {d lo hi : Int} {offs : Array Int} (hB : mB M = cc) (hd : decode cc pc = .ok (.tableswitch d lo hi offs, ln)) (ht : (pc : Int) + d = (tgt : Int)) (hp : phi M tgt ≤ phi M pc) (hx : bd x) (ho : x < lo ∨ hi < x) (h : pX M tgt L S w Q) : pX M pc L (iv x :: S) w Q := by
  refine (pX_j hB hd rfl (l0 := 0) (off := d) (S' := S) ?_ (Or.inr rfl) ht hp Q).mpr h
  show (if (Int32.ofInt x).toInt < lo ∨ hi < (Int32.ofInt x).toInt then some (true, d, 0, S) else _) = _
  rw [toInt_iv hx, if_pos ho]
theorem w_tsI {d lo hi : Int} {offs : Array Int} (hB : mB M = cc) (hd : decode cc pc = .ok (.tableswitch d lo hi offs, ln)) (ht : (pc : Int) + off = (tgt : Int)) (hp : phi M tgt ≤ phi M pc) (hx : bd x) (h1 : ¬ (x < lo ∨ hi < x)) (ho : offs[(x - lo).toNat]? = some off) (h : pX M tgt L S w Q) : pX M pc L (iv x :: S) w Q := by
  refine (pX_j hB hd rfl (l0 := 0) (off := off) (S' := S) ?_ (Or.inr rfl) ht hp Q).mpr h
  show (if (Int32.ofInt x).toInt < lo ∨ hi < (Int32.ofInt x).toInt then some (true, d, 0, S) else match offs[((Int32.ofInt x).toInt - lo).toNat]? with | some off => some (true, off, 0, S) | none => none) = _
  rw [toInt_iv hx, if_neg h1, ho]
/-! memory -/
theorem w_gi {idx ci k : Nat} {a : Nat} {l : List (Option Nat)} (hB : mB M = cc) (hd : decode cc pc = .ok (.getfield idx, 3)) (hp : plk idx (kF (mC M)) = some (ci, k)) (hn : np = pc + 3) (hs : Sh w) (ha : a < 182) (ht : tb a = (0, ci, l)) (hk : l[k]? = some none) (h : pX M np L (iv (gI w a k) :: S) w Q) : pX M pc L (.ref a :: S) w Q := by
  obtain ⟨fs, he, hf⟩ := sh_obj hs ha ht
  rw [← hf, List.getElem?_map] at hk
  cases hg : fs[k]? with
  | none => rw [hg] at hk; cases hk
  | some v =>
    rw [hg] at hk
    have hv : ∃ x, v = .int x := by
      cases v with
      | int x => exact ⟨x, rfl⟩
      | ref r => cases hk
      | _ => exact absurd hk (by simp [shv])
    obtain ⟨x, rfl⟩ := hv
    have e : iv (gI w a k) = .int x := by
      unfold gI
      rw [he]
      dsimp only
      rw [hg]
      exact iv_toInt x
    rw [e] at h
    refine (pX_l hB hd rfl (ln := 3) (w' := w) (S' := .int x :: S) ?_ hn Q).mpr h
    unfold pld
    dsimp only
    rw [hp]
    dsimp only
    unfold pgf
    rw [he]
    dsimp only
    rw [if_pos rfl, hg]
theorem w_gr {idx ci k r : Nat} {a : Nat} {l : List (Option Nat)} (hB : mB M = cc) (hd : decode cc pc = .ok (.getfield idx, 3)) (hp : plk idx (kF (mC M)) = some (ci, k)) (hn : np = pc + 3) (hs : Sh w) (ha : a < 182) (ht : tb a = (0, ci, l)) (hk : l[k]? = some (some r)) (hr : r ≠ 4242424) (h : pX M np L (.ref r :: S) w Q) : pX M pc L (.ref a :: S) w Q := by
  obtain ⟨fs, he, hf⟩ := sh_obj hs ha ht
  rw [← hf, List.getElem?_map] at hk
  cases hg : fs[k]? with
  | none => rw [hg] at hk; cases hk
  | some v =>
    rw [hg] at hk
    have hv : v = .ref r := by
      cases v with
      | int x => cases hk
      | ref r' => cases hk; rfl
      | _ => exact absurd (Option.some.inj (Option.some.inj hk)).symm hr
    subst hv
    refine (pX_l hB hd rfl (ln := 3) (w' := w) (S' := .ref r :: S) ?_ hn Q).mpr h
    unfold pld
    dsimp only
    rw [hp]
    dsimp only
    unfold pgf
    rw [he]
    dsimp only
    rw [if_pos rfl, hg]
theorem w_pi {idx ci k : Nat} {a : Nat} {l : List (Option Nat)} {z : Int} (hB : mB M = cc) (hd : decode cc pc = .ok (.putfield idx, 3)) (hp : plk idx (kF (mC M)) = some (ci, k)) (hn : np = pc + 3) (hs : Sh w) (ha : a < 182) (ht : tb a = (0, ci, l)) (hk : l[k]? = some none) (hT : (oT ci).getD k .byte = .int) (hK : (oK ci).getD k true = false) (h : pX M np L S (sI w a k z) Q) : pX M pc L (iv z :: .ref a :: S) w Q := by
  obtain ⟨fs, he, hf⟩ := sh_obj hs ha ht
  have hlt : k < fs.length := by
    rw [← hf] at hk
    have := (List.getElem?_eq_some_iff.mp hk).1
    rwa [List.length_map] at this
  have e : sI w a k z = pup w a (.inr (ci, fs.set k (iv z))) := by
    unfold sI
    rw [he]
  rw [e] at h
  refine (pX_s hB hd rfl (ln := 3) (S' := S) ?_ hn Q).mpr h
  unfold psw
  dsimp only
  rw [hp]
  dsimp only
  rw [hT, if_pos ⟨rfl, Or.inl hK⟩]
  unfold ppf
  rw [he]
  dsimp only
  rw [if_pos ⟨rfl, hlt⟩]
theorem iv_idx {z : Int} {n : Nat} (hb : bd z) (h : 0 ≤ z ∧ z < n) : ¬ (Int32.ofInt z < 0 ∨ n ≤ (Int32.ofInt z).toNatClampNeg) ∧ (Int32.ofInt z).toNatClampNeg = z.toNat := by
  have e : (Int32.ofInt z).toNatClampNeg = z.toNat := Int32.toNatClampNeg_ofInt_of_le (by have := hb.1; omega) (by have := hb.2; omega)
  refine ⟨fun q => ?_, e⟩
  rcases q with q | q
  · have := (iv_lt hb bd0).mp q
    omega
  · rw [e] at q
    omega
theorem pai_of {w : PW} {a t n : Nat} {f : Nat → Int32} (h : w.2.2 a = .inl (t, n, .inl f)) : pai w a t = some (n, f) := by
  unfold pai
  rw [h]
  dsimp only
  rw [if_pos rfl]
theorem pai_no {w : PW} {a t t' n : Nat} {f : Nat → Int32} (h : w.2.2 a = .inl (t, n, .inl f)) (ht : t ≠ t') : pai w a t' = none := by
  unfold pai
  rw [h]
  dsimp only
  rw [if_neg ht]
theorem gI_arr {w : PW} {a t n k : Nat} {f : Nat → Int32} (h : w.2.2 a = .inl (t, n, .inl f)) : iv (gI w a k) = .int (f k) := by
  unfold gI
  rw [h]
  exact iv_toInt _
theorem w_ial {a n : Nat} {z : Int} (hB : mB M = cc) (hd : decode cc pc = .ok (.iaload, 1)) (hn : np = pc + 1) (hs : Sh w) (ha : a < 182) (ht : tb a = (1, 0, [some n])) (hb : bd z) (hz : 0 ≤ z ∧ z < n) (h : pX M np L (iv (gI w a z.toNat) :: S) w Q) : pX M pc L (iv z :: .ref a :: S) w Q := by
  obtain ⟨f, hf⟩ := sh_int hs ha ht
  obtain ⟨h1, h2⟩ := iv_idx hb hz
  rw [gI_arr hf, ← h2] at h
  refine (pX_l hB hd rfl (ln := 1) (w' := w) ?_ hn Q).mpr h
  unfold pld
  dsimp only
  rw [pai_of hf]
  dsimp only
  rw [if_neg h1]
theorem w_cal {a n : Nat} {z : Int} (hB : mB M = cc) (hd : decode cc pc = .ok (.caload, 1)) (hn : np = pc + 1) (hs : Sh w) (ha : a < 182) (ht : tb a = (1, 2, [some n])) (hb : bd z) (hz : 0 ≤ z ∧ z < n) (h : pX M np L (iv (gI w a z.toNat) :: S) w Q) : pX M pc L (iv z :: .ref a :: S) w Q := by
  obtain ⟨f, hf⟩ := sh_int hs ha ht
  obtain ⟨h1, h2⟩ := iv_idx hb hz
  rw [gI_arr hf, ← h2] at h
  refine (pX_l hB hd rfl (ln := 1) (w' := w) ?_ hn Q).mpr h
  unfold pld
  dsimp only
  rw [pai_of hf]
  dsimp only
  rw [if_neg h1]
theorem w_bal {a n t : Nat} {z : Int} (hB : mB M = cc) (hd : decode cc pc = .ok (.baload, 1)) (hn : np = pc + 1) (hs : Sh w) (ha : a < 182) (ht : tb a = (1, t, [some n])) (htt : t = 3 ∨ t = 4) (hb : bd z) (hz : 0 ≤ z ∧ z < n) (h : pX M np L (iv (gI w a z.toNat) :: S) w Q) : pX M pc L (iv z :: .ref a :: S) w Q := by
  obtain ⟨f, hf⟩ := sh_int hs ha ht
  obtain ⟨h1, h2⟩ := iv_idx hb hz
  rw [gI_arr hf, ← h2] at h
  refine (pX_l hB hd rfl (ln := 1) (w' := w) ?_ hn Q).mpr h
  unfold pld
  dsimp only
  rcases htt with rfl | rfl
  · rw [pai_of hf]
    dsimp only
    rw [if_neg h1]
  · rw [pai_no hf (by decide), pai_of hf]
    dsimp only
    rw [if_neg h1]
theorem w_lal {a n : Nat} {z : Int} (hB : mB M = cc) (hd : decode cc pc = .ok (.laload, 1)) (hn : np = pc + 1) (hs : Sh w) (ha : a < 182) (ht : tb a = (3, 1, [some n])) (hb : bd z) (hz : 0 ≤ z ∧ z < n) (h : pX M np L (.long (gL w a z.toNat) :: S) w Q) : pX M pc L (iv z :: .ref a :: S) w Q := by
  obtain ⟨f, hf⟩ := sh_long hs ha ht
  obtain ⟨h1, h2⟩ := iv_idx hb hz
  have e : gL w a z.toNat = f z.toNat := by unfold gL; rw [hf]
  rw [e, ← h2] at h
  refine (pX_l hB hd rfl (ln := 1) (w' := w) ?_ hn Q).mpr h
  unfold pld
  dsimp only
  unfold paL
  rw [hf]
  dsimp only
  rw [if_pos rfl]
  dsimp only
  rw [if_neg h1]
theorem w_qal {a r : Nat} {l : List (Option Nat)} {z : Int} (hB : mB M = cc) (hd : decode cc pc = .ok (.aaload, 1)) (hn : np = pc + 1) (hs : Sh w) (ha : a < 182) (ht : tb a = (6, 6, l)) (hb : bd z) (hz : 0 ≤ z) (hr : l[z.toNat]? = some (some r)) (h : pX M np L (.ref r :: S) w Q) : pX M pc L (iv z :: .ref a :: S) w Q := by
  obtain ⟨n, f, hf, hl⟩ := sh_box hs ha ht
  have hlt : z.toNat < n := by
    have := (List.getElem?_eq_some_iff.mp hr).1
    rw [← hl, List.length_map, List.length_range] at this
    exact this
  obtain ⟨h1, h2⟩ := iv_idx (n := n) hb ⟨hz, by omega⟩
  have e : f z.toNat = some r := by
    rw [← hl, List.getElem?_map, List.getElem?_range hlt] at hr
    exact Option.some.inj hr
  refine (pX_l hB hd rfl (ln := 1) (w' := w) (S' := .ref r :: S) ?_ hn Q).mpr h
  unfold pld
  dsimp only
  unfold paQ
  rw [hf]
  dsimp only
  rw [if_pos rfl]
  dsimp only
  rw [if_neg h1, h2, e]
  rfl
theorem w_ias {a n : Nat} {z v : Int} (hB : mB M = cc) (hd : decode cc pc = .ok (.iastore, 1)) (hn : np = pc + 1) (hs : Sh w) (ha : a < 182) (ht : tb a = (1, 0, [some n])) (hb : bd z) (hz : 0 ≤ z ∧ z < n) (h : pX M np L S (sI w a z.toNat v) Q) : pX M pc L (iv v :: iv z :: .ref a :: S) w Q := by
  obtain ⟨f, hf⟩ := sh_int hs ha ht
  obtain ⟨h1, h2⟩ := iv_idx hb hz
  have e : sI w a z.toNat v = pup w a (.inl (0, n, .inl (upd f z.toNat (Int32.ofInt v)))) := by unfold sI; rw [hf]
  rw [e, ← h2] at h
  refine (pX_s hB hd rfl (ln := 1) (S' := S) ?_ hn Q).mpr h
  unfold psw
  dsimp only
  rw [pai_of hf]
  dsimp only
  rw [if_neg h1]
theorem w_las {a n : Nat} {z : Int} {v : Int64} (hB : mB M = cc) (hd : decode cc pc = .ok (.lastore, 1)) (hn : np = pc + 1) (hs : Sh w) (ha : a < 182) (ht : tb a = (3, 1, [some n])) (hb : bd z) (hz : 0 ≤ z ∧ z < n) (h : pX M np L S (sL w a z.toNat v) Q) : pX M pc L (.long v :: iv z :: .ref a :: S) w Q := by
  obtain ⟨f, hf⟩ := sh_long hs ha ht
  obtain ⟨h1, h2⟩ := iv_idx hb hz
  have e : sL w a z.toNat v = pup w a (.inl (1, n, .inr (.inl (vp_updL f z.toNat v)))) := by unfold sL; rw [hf]
  rw [e, ← h2] at h
  refine (pX_s hB hd rfl (ln := 1) (S' := S) ?_ hn Q).mpr h
  unfold psw
  dsimp only
  unfold paL
  rw [hf]
  dsimp only
  rw [if_pos rfl]
  dsimp only
  rw [if_neg h1]
theorem w_cas {a n : Nat} {z v : Int} (hB : mB M = cc) (hd : decode cc pc = .ok (.castore, 1)) (hn : np = pc + 1) (hs : Sh w) (ha : a < 182) (ht : tb a = (1, 2, [some n])) (hb : bd z) (hz : 0 ≤ z ∧ z < n) (hv : vp_nar .char (Int32.ofInt v) = Int32.ofInt v) (h : pX M np L S (sI w a z.toNat v) Q) : pX M pc L (iv v :: iv z :: .ref a :: S) w Q := by
  obtain ⟨f, hf⟩ := sh_int hs ha ht
  obtain ⟨h1, h2⟩ := iv_idx hb hz
  have e : sI w a z.toNat v = pup w a (.inl (2, n, .inl (upd f z.toNat (Int32.ofInt v)))) := by unfold sI; rw [hf]
  rw [e, ← h2] at h
  refine (pX_s hB hd rfl (ln := 1) (S' := S) ?_ hn Q).mpr h
  unfold psw
  dsimp only
  rw [pai_of hf]
  dsimp only
  rw [if_neg h1, hv]
theorem w_bas {a n t : Nat} {z v : Int} (hB : mB M = cc) (hd : decode cc pc = .ok (.bastore, 1)) (hn : np = pc + 1) (hs : Sh w) (ha : a < 182) (ht : tb a = (1, t, [some n])) (htt : (t = 3 ∧ vp_nar .boolean (Int32.ofInt v) = Int32.ofInt v) ∨ (t = 4 ∧ vp_nar .byte (Int32.ofInt v) = Int32.ofInt v)) (hb : bd z) (hz : 0 ≤ z ∧ z < n) (h : pX M np L S (sI w a z.toNat v) Q) : pX M pc L (iv v :: iv z :: .ref a :: S) w Q := by
  obtain ⟨f, hf⟩ := sh_int hs ha ht
  obtain ⟨h1, h2⟩ := iv_idx hb hz
  have e : sI w a z.toNat v = pup w a (.inl (t, n, .inl (upd f z.toNat (Int32.ofInt v)))) := by unfold sI; rw [hf]
  rw [e, ← h2] at h
  refine (pX_s hB hd rfl (ln := 1) (S' := S) ?_ hn Q).mpr h
  unfold psw
  dsimp only
  rcases htt with ⟨rfl, hv⟩ | ⟨rfl, hv⟩
  · rw [pai_of hf]
    dsimp only
    rw [if_neg h1, hv]
  · rw [pai_no hf (by decide), pai_of hf]
    dsimp only
    rw [if_neg h1, hv]
theorem w_lenI {a n t : Nat} (hB : mB M = cc) (hd : decode cc pc = .ok (.arraylength, 1)) (hn : np = pc + 1) (hs : Sh w) (ha : a < 182) (ht : tb a = (1, t, [some n])) (h : pX M np L (iv n :: S) w Q) : pX M pc L (.ref a :: S) w Q := by
  obtain ⟨f, hf⟩ := sh_int hs ha ht
  have e : iv (n : Int) = .int (Int32.ofNat n) := congrArg Value.int Int32.ofInt_eq_ofNat
  rw [e] at h
  refine (pX_l hB hd rfl (ln := 1) (w' := w) ?_ hn Q).mpr h
  unfold pld
  dsimp only
  unfold pal
  rw [hf]
theorem w_lenL {a n t : Nat} (hB : mB M = cc) (hd : decode cc pc = .ok (.arraylength, 1)) (hn : np = pc + 1) (hs : Sh w) (ha : a < 182) (ht : tb a = (3, t, [some n])) (h : pX M np L (iv n :: S) w Q) : pX M pc L (.ref a :: S) w Q := by
  obtain ⟨f, hf⟩ := sh_long hs ha ht
  have e : iv (n : Int) = .int (Int32.ofNat n) := congrArg Value.int Int32.ofInt_eq_ofNat
  rw [e] at h
  refine (pX_l hB hd rfl (ln := 1) (w' := w) ?_ hn Q).mpr h
  unfold pld
  dsimp only
  unfold pal
  rw [hf]
theorem w_ldcI {idx : Nat} {z : Int} (hB : mB M = cc) (hd : decode cc pc = .ok (.ldc idx, 2)) (hp : plk idx (kC (mC M)) = some (iv z)) (hn : np = pc + 2) (h : pX M np L (iv z :: S) w Q) : pX M pc L S w Q := by
  refine (pX_l hB hd rfl (ln := 2) (w' := w) (S' := iv z :: S) ?_ hn Q).mpr h
  unfold pld
  dsimp only
  rw [hp]
theorem w_ldcS {idx r : Nat} (hB : mB M = cc) (hd : decode cc pc = .ok (.ldc idx, 2)) (hp : plk idx (kC (mC M)) = some (.ref r)) (hn : np = pc + 2) (h : pX M np L (.ref r :: S) w Q) : pX M pc L S w Q := by
  refine (pX_l hB hd rfl (ln := 2) (w' := w) (S' := .ref r :: S) ?_ hn Q).mpr h
  unfold pld
  dsimp only
  rw [hp]
theorem w_ldcL {idx : Nat} {x : Int64} (hB : mB M = cc) (hd : decode cc pc = .ok (.ldc2_w idx, 3)) (hp : plk idx (kC (mC M)) = some (.long x)) (hn : np = pc + 3) (h : pX M np L (.long x :: S) w Q) : pX M pc L S w Q := by
  refine (pX_l hB hd rfl (ln := 3) (w' := w) (S' := .long x :: S) ?_ hn Q).mpr h
  unfold pld
  dsimp only
  rw [hp]
/-! ends -/
theorem w_ri {z : Int} (hB : mB M = cc) (hd : decode cc pc = .ok (.ireturn, 1)) (hr : mR M = some .int) (h : Q (.inl (some (iv z))) w) : pX M pc L [iv z] w Q := by
  refine (pX_r hB hd rfl (v := some (iv z)) ?_ Q).mpr h
  unfold prt
  dsimp only
  rw [hr]
theorem w_rz {z : Int} (hB : mB M = cc) (hd : decode cc pc = .ok (.ireturn, 1)) (hr : mR M = some .boolean) (hz : z = 0 ∨ z = 1) (h : Q (.inl (some (iv z))) w) : pX M pc L [iv z] w Q := by
  refine (pX_r hB hd rfl (v := some (iv z)) ?_ Q).mpr h
  unfold prt
  dsimp only
  rw [hr]
  dsimp only
  rw [if_pos]
  rcases hz with rfl | rfl
  · exact Or.inl (by decide)
  · exact Or.inr (by decide)
theorem w_rl {x : Int64} (hB : mB M = cc) (hd : decode cc pc = .ok (.lreturn, 1)) (hr : mR M = some .long) (h : Q (.inl (some (.long x))) w) : pX M pc L [.long x] w Q := by
  refine (pX_r hB hd rfl (v := some (.long x)) ?_ Q).mpr h
  unfold prt
  dsimp only
  rw [if_pos hr]
theorem w_ra {x : Nat} (hB : mB M = cc) (hd : decode cc pc = .ok (.areturn, 1)) (hr : mR M = some (.object "java/lang/String")) (h : Q (.inl (some (.ref x))) w) : pX M pc L [.ref x] w Q := by
  refine (pX_r hB hd rfl (v := some (.ref x)) ?_ Q).mpr h
  unfold prt
  dsimp only
  rw [if_pos hr]
theorem w_rv (hB : mB M = cc) (hd : decode cc pc = .ok (.return_, 1)) (hr : mR M = none) (h : Q (.inl none) w) : pX M pc L [] w Q := by
  refine (pX_r hB hd rfl (v := none) ?_ Q).mpr h
  unfold prt
  dsimp only
  rw [if_pos hr]
/-! calls -/
def kI (k : Int → PW → Prop) : PO → PW → Prop := fun o w => match o with
  | .inl (some (.int x)) => k x.toInt w
  | _ => False
def kL (k : Int64 → PW → Prop) : PO → PW → Prop := fun o w => match o with
  | .inl (some (.long x)) => k x w
  | _ => False
def kA (k : Nat → PW → Prop) : PO → PW → Prop := fun o w => match o with
  | .inl (some (.ref x)) => k x w
  | _ => False
def kV (k : PW → Prop) : PO → PW → Prop := fun o w => match o with
  | .inl none => k w
  | _ => False
/-- of a call that may throw, in a method that catches nothing -/
def kX (k Q : PO → PW → Prop) : PO → PW → Prop := fun o w => match o with
  | .inr E => Q (.inr E) w
  | .inl v => k (.inl v) w
theorem kI_iv {k : Int → PW → Prop} {z : Int} (hz : bd z) (h : k z w) : kI k (.inl (some (iv z))) w := by
  show k (Int32.ofInt z).toInt w
  rw [toInt_iv hz]
  exact h
theorem pC_mono {M : Nat} {a : List Value} {w : PW} {K K' : PO → PW → Prop} (h : pC M a w K) (hk : ∀ o w', K o w' → K' o w') : pC M a w K' := by
  obtain ⟨n, r, h1, h2⟩ := h
  exact ⟨n, r, h1, hk _ _ h2⟩
variable {M' : Nat} {args rest : List Value}
theorem w_c (hB : mB M = cc) (hd : decode cc pc = .ok (i, 3)) (hk : pkd i = 5) (hc : pcl M pc i S w = some (M', args, rest)) (hn : np = pc + 3) (K : PO → PW → Prop) (hK : ∀ o w', K o w' → pK M pc np L rest Q o w') (h : pC M' args w K) : pX M pc L S w Q :=
  (pX_call hB hd hk hc hn Q).mpr (pC_mono h hK)
theorem hK_I {k : Int → PW → Prop} (h : ∀ x w', bd x → k x w' → pX M np L (iv x :: rest) w' Q) : ∀ o w', kI k o w' → pK M pc np L rest Q o w' := by
  intro o w' hk
  match o, hk with
  | .inl (some (.int x)), hk =>
    have := h _ _ (bd_toInt x) hk
    rw [iv_toInt] at this
    exact this
theorem hK_L {k : Int64 → PW → Prop} (h : ∀ x w', k x w' → pX M np L (.long x :: rest) w' Q) : ∀ o w', kL k o w' → pK M pc np L rest Q o w' := by
  intro o w' hk
  match o, hk with
  | .inl (some (.long x)), hk => exact h _ _ hk
theorem hK_A {k : Nat → PW → Prop} (h : ∀ x w', k x w' → pX M np L (.ref x :: rest) w' Q) : ∀ o w', kA k o w' → pK M pc np L rest Q o w' := by
  intro o w' hk
  match o, hk with
  | .inl (some (.ref x)), hk => exact h _ _ hk
theorem hK_V {k : PW → Prop} (h : ∀ w', k w' → pX M np L rest w' Q) : ∀ o w', kV k o w' → pK M pc np L rest Q o w' := by
  intro o w' hk
  match o, hk with
  | .inl none, hk => exact h _ hk
theorem hK_X {K : PO → PW → Prop} (hH : mH M = []) (h : ∀ o w', K o w' → pK M pc np L rest Q o w') : ∀ o w', kX K Q o w' → pK M pc np L rest Q o w' := by
  intro o w' hk
  match o, hk with
  | .inl v, hk => exact h _ _ hk
  | .inr E, hk =>
    show (match phd M pc E with | some (h, loc, ln) => (pc + 3 ≤ h ∧ loc < L.length) ∧ pX M (h + ln) ((pst1 L loc (.int 0)).set loc none) [] w' Q | none => Q (.inr E) w')
    unfold phd
    rw [hH]
    exact hk
/-- the methods that are taken whole -/
theorem w_n (hB : mB M = cc) (hd : decode cc pc = .ok (i, 3)) (hk : pkd i = 5) (h0 : pcl M pc i S w = none) (hf : pna M i S w = some (S', w')) (hn : np = pc + 3) (h : pX M np L S' w' Q) : pX M pc L S w Q := (pX_n hB hd hk h0 hf hn Q).mpr h
end WS
