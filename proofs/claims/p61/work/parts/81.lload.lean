/-! THE LAW's METHODS: load -/
def tlOk (tl : List Nat) : Prop := tl.length < 1000 ∧ ∀ k, k < tl.length → tl.getD k 0 < 128
theorem tln {tl : List Nat} (h : tlOk tl) : bd ((tl.length : Nat) : Int) := by
  have := h.1
  exact bdk (by omega)
theorem tlb {tl : List Nat} (h : tlOk tl) {z : Int} (hz : 0 ≤ z ∧ z < (tl.length : Nat)) : bd ((tl.getD z.toNat 0 : Nat) : Int) := by
  have := h.2 z.toNat (by omega)
  exact bdk (by omega)
/-! 216: PinBarrelLaw.load(LPinBarrel;Ljava/lang/String;)I -/
theorem b216 : mB 216 = cL_load := rfl
theorem r216 : mR 216 = (some .int) := rfl
theorem p216 (a b : Nat) : phi 216 a ≤ phi 216 b := Nat.le_refl 0
theorem d216_0 : decode cL_load 0 = .ok (.lconst 0, 1) := by decide +kernel
theorem d216_1 : decode cL_load 1 = .ok (.lstore_n 2, 1) := by decide +kernel
theorem d216_2 : decode cL_load 2 = .ok (.iconst 0, 1) := by decide +kernel
theorem d216_3 : decode cL_load 3 = .ok (.istore 4, 2) := by decide +kernel
theorem d216_5 : decode cL_load 5 = .ok (.iload 4, 2) := by decide +kernel
theorem d216_7 : decode cL_load 7 = .ok (.aload_n 1, 1) := by decide +kernel
theorem d216_8 : decode cL_load 8 = .ok (.invokevirtual 14, 3) := by decide +kernel
theorem d216_11 : decode cL_load 11 = .ok (.if_icmp .ge 54, 3) := by decide +kernel
theorem d216_14 : decode cL_load 14 = .ok (.lload_n 2, 1) := by decide +kernel
theorem d216_15 : decode cL_load 15 = .ok (.bipush 8, 2) := by decide +kernel
theorem d216_17 : decode cL_load 17 = .ok (.lshl, 1) := by decide +kernel
theorem d216_18 : decode cL_load 18 = .ok (.aload_n 1, 1) := by decide +kernel
theorem d216_19 : decode cL_load 19 = .ok (.iload 4, 2) := by decide +kernel
theorem d216_21 : decode cL_load 21 = .ok (.invokevirtual 20, 3) := by decide +kernel
theorem d216_24 : decode cL_load 24 = .ok (.i2l, 1) := by decide +kernel
theorem d216_25 : decode cL_load 25 = .ok (.lor, 1) := by decide +kernel
theorem d216_26 : decode cL_load 26 = .ok (.lstore_n 2, 1) := by decide +kernel
theorem d216_27 : decode cL_load 27 = .ok (.iload 4, 2) := by decide +kernel
theorem d216_29 : decode cL_load 29 = .ok (.bipush 8, 2) := by decide +kernel
theorem d216_31 : decode cL_load 31 = .ok (.irem, 1) := by decide +kernel
theorem d216_32 : decode cL_load 32 = .ok (.bipush 7, 2) := by decide +kernel
theorem d216_34 : decode cL_load 34 = .ok (.if_icmp .eq 17, 3) := by decide +kernel
theorem d216_37 : decode cL_load 37 = .ok (.iload 4, 2) := by decide +kernel
theorem d216_39 : decode cL_load 39 = .ok (.aload_n 1, 1) := by decide +kernel
theorem d216_40 : decode cL_load 40 = .ok (.invokevirtual 14, 3) := by decide +kernel
theorem d216_43 : decode cL_load 43 = .ok (.iconst 1, 1) := by decide +kernel
theorem d216_44 : decode cL_load 44 = .ok (.isub, 1) := by decide +kernel
theorem d216_45 : decode cL_load 45 = .ok (.if_icmp .eq 6, 3) := by decide +kernel
theorem d216_48 : decode cL_load 48 = .ok (.goto 11, 3) := by decide +kernel
theorem d216_51 : decode cL_load 51 = .ok (.aload_n 0, 1) := by decide +kernel
theorem d216_52 : decode cL_load 52 = .ok (.lload_n 2, 1) := by decide +kernel
theorem d216_53 : decode cL_load 53 = .ok (.invokevirtual 24, 3) := by decide +kernel
theorem d216_56 : decode cL_load 56 = .ok (.pop, 1) := by decide +kernel
theorem d216_57 : decode cL_load 57 = .ok (.lconst 0, 1) := by decide +kernel
theorem d216_58 : decode cL_load 58 = .ok (.lstore_n 2, 1) := by decide +kernel
theorem d216_59 : decode cL_load 59 = .ok (.iinc 4 1, 3) := by decide +kernel
theorem d216_62 : decode cL_load 62 = .ok (.goto (-57), 3) := by decide +kernel
theorem d216_65 : decode cL_load 65 = .ok (.aload_n 0, 1) := by decide +kernel
theorem d216_66 : decode cL_load 66 = .ok (.invokevirtual 30, 3) := by decide +kernel
theorem d216_69 : decode cL_load 69 = .ok (.ireturn, 1) := by decide +kernel
theorem v216_0 {w : PW} {Q : PO → PW → Prop} {tl : List Nat} (hs : Sh w) (hT : Tx w tl) (htl : tlOk tl) (h : pX 216 5 [some (.ref 0), some (.ref pTX), some (.long ((0 : Int64))), none, some (iv 0)] [] w Q) : pX 216 0 [some (.ref 0), some (.ref pTX), none, none, none] [] w Q :=
  w_f b216 d216_0 rfl rfl rfl <| w_f b216 d216_1 rfl rfl rfl <| w_f b216 d216_2 rfl rfl rfl <| w_f b216 d216_3 rfl rfl rfl <| h
theorem e216 {w : PW} {Q : PO → PW → Prop} {tl : List Nat} (hs : Sh w) (hT : Tx w tl) (htl : tlOk tl) (h : pX 216 5 [some (.ref 0), some (.ref pTX), some (.long ((0 : Int64))), none, some (iv 0)] [] w Q) : pC 216 [.ref 0, .ref pTX] w Q :=
  (pC_in (Nat.le_of_ble_eq_true rfl) rfl Q).mpr (v216_0 hs hT htl h)
theorem v216_5 {w : PW} {Q : PO → PW → Prop} {tl : List Nat} {y2 : Int64} {x4 : Int} (hs : Sh w) (hT : Tx w tl) (htl : tlOk tl) (hx4 : bd x4) (h : ((((tl.length : Nat) : Int)) ≤ x4 → pC 39 [.ref 0] w (kI fun u3 w2 => Sh w2 ∧ Q (.inl (some (iv u3))) w2)) ∧ (x4 < (((tl.length : Nat) : Int)) → (0 ≤ x4 ∧ x4 < (tl.length : Nat)) ∧ (bd (x4.tmod 8)) ∧ ((x4.tmod 8) = 7 → pC 10 [.ref 0, .long ((lShl y2 8) ||| (i2L (((tl.getD x4.toNat 0 : Nat) : Int))))] w (kI fun u6 w5 => Sh w5 ∧ pX 216 5 [some (.ref 0), some (.ref pTX), some (.long ((0 : Int64))), none, some (iv (x4 + 1))] [] w5 Q)) ∧ ((x4.tmod 8) ≠ 7 → (bd ((((tl.length : Nat) : Int)) - 1)) ∧ (x4 = ((((tl.length : Nat) : Int)) - 1) → pC 10 [.ref 0, .long ((lShl y2 8) ||| (i2L (((tl.getD x4.toNat 0 : Nat) : Int))))] w (kI fun u9 w8 => Sh w8 ∧ pX 216 5 [some (.ref 0), some (.ref pTX), some (.long ((0 : Int64))), none, some (iv (x4 + 1))] [] w8 Q)) ∧ (x4 ≠ ((((tl.length : Nat) : Int)) - 1) → pX 216 5 [some (.ref 0), some (.ref pTX), some (.long ((lShl y2 8) ||| (i2L (((tl.getD x4.toNat 0 : Nat) : Int))))), none, some (iv (x4 + 1))] [] w Q)))) : pX 216 5 [some (.ref 0), some (.ref pTX), some (.long y2), none, some (iv x4)] [] w Q :=
  w_f b216 d216_5 rfl rfl rfl <| w_f b216 d216_7 rfl rfl rfl <| w_txn b216 d216_8 rfl rfl hT rfl <| w_icge b216 d216_11 rfl rfl (p216 _ _) hx4 (tln htl) (fun c1 => w_f b216 d216_65 rfl rfl rfl <| w_c b216 d216_66 rfl (pcl_v (n := 0) rfl rfl rfl (by decide +kernel) (sh_isOb hs (tlt 0 rfl) tbC_0) rfl rfl) rfl _ (hK_I fun u3 w2 hbu3 hkw2 => w_ri b216 d216_69 r216 hkw2.2) (h.1 c1)) (fun c1 => w_f b216 d216_14 rfl rfl rfl <| w_f b216 d216_15 rfl rfl rfl <| w_f b216 d216_17 rfl rfl rfl <| w_f b216 d216_18 rfl rfl rfl <| w_f b216 d216_19 rfl rfl rfl <| w_txc b216 d216_21 rfl rfl hT rfl hx4 (h.2 c1).1 <| w_f b216 d216_24 rfl rfl rfl <| w_f b216 d216_25 rfl rfl rfl <| w_f b216 d216_26 rfl rfl rfl <| w_f b216 d216_27 rfl rfl rfl <| w_f b216 d216_29 rfl rfl rfl <| w_f b216 d216_31 rfl (pf_irem hx4 ⟨by decide, by decide⟩) rfl <| w_f b216 d216_32 rfl rfl rfl <| w_iceq b216 d216_34 rfl rfl (p216 _ _) (h.2 c1).2.1 ⟨by decide, by decide⟩ (fun c4 => w_f b216 d216_51 rfl rfl rfl <| w_f b216 d216_52 rfl rfl rfl <| w_c b216 d216_53 rfl (pcl_v (n := 1) rfl rfl rfl (by decide +kernel) (sh_isOb hs (tlt 0 rfl) tbC_0) rfl rfl) rfl _ (hK_I fun u6 w5 hbu6 hkw5 => w_f b216 d216_56 rfl rfl rfl <| w_f b216 d216_57 rfl rfl rfl <| w_f b216 d216_58 rfl rfl rfl <| w_f b216 d216_59 rfl (pf_iinc rfl rfl) rfl <| w_j b216 d216_62 rfl (p216 _ _) <| hkw5.2) ((h.2 c1).2.2.1 c4)) (fun c4 => w_f b216 d216_37 rfl rfl rfl <| w_f b216 d216_39 rfl rfl rfl <| w_txn b216 d216_40 rfl rfl hT rfl <| w_f b216 d216_43 rfl rfl rfl <| w_f b216 d216_44 rfl (pf_isub (((tl.length : Nat) : Int)) 1) rfl <| w_iceq b216 d216_45 rfl rfl (p216 _ _) hx4 ((h.2 c1).2.2.2 c4).1 (fun c7 => w_f b216 d216_51 rfl rfl rfl <| w_f b216 d216_52 rfl rfl rfl <| w_c b216 d216_53 rfl (pcl_v (n := 1) rfl rfl rfl (by decide +kernel) (sh_isOb hs (tlt 0 rfl) tbC_0) rfl rfl) rfl _ (hK_I fun u9 w8 hbu9 hkw8 => w_f b216 d216_56 rfl rfl rfl <| w_f b216 d216_57 rfl rfl rfl <| w_f b216 d216_58 rfl rfl rfl <| w_f b216 d216_59 rfl (pf_iinc rfl rfl) rfl <| w_j b216 d216_62 rfl (p216 _ _) <| hkw8.2) (((h.2 c1).2.2.2 c4).2.1 c7)) (fun c7 => w_j b216 d216_48 rfl (p216 _ _) <| w_f b216 d216_59 rfl (pf_iinc rfl rfl) rfl <| w_j b216 d216_62 rfl (p216 _ _) <| (((h.2 c1).2.2.2 c4).2.2 c7))))
section LLO
theorem i2L_toNat {c : Nat} (h : c < 256) : (i2L (c : Int)).toBitVec.toNat = c := by
  have h1 := i2L_toInt (z := (c : Int)) (bdk (by omega))
  have h2 : (i2L (c : Int)).toBitVec.toInt = (c : Int) := h1
  rw [BitVec.toInt_eq_toNat_cond] at h2
  have := (i2L (c : Int)).toBitVec.isLt
  split at h2 <;> omega
theorem tL_i2L {c : Nat} (h : c < 256) (i : Nat) : tL (i2L (c : Int)) i = c.testBit i := by
  show (i2L (c : Int)).toBitVec.toNat.testBit i = _
  rw [i2L_toNat h]
theorem tL_255 (i : Nat) : tL 255 i = decide (i < 8) := by
  by_cases q : i < 64
  · revert q
    revert i
    decide +kernel
  · rw [tL_big (by omega), decide_eq_false (by omega)]
theorem bN_bit (y : Int64) {k i : Nat} (hk : k < 8) : (bN y k).testBit i = (decide (i < 8) && tL y (8 * k + i)) := by
  show tL (lUsh y (8 * k : Nat) &&& 255) i = _
  rw [tL_and, tL_ush ⟨by omega, by omega⟩, tL_255, Int.toNat_natCast, Bool.and_comm]
theorem tb_hi {c i : Nat} (h : c < 256) (hi : 8 ≤ i) : c.testBit i = false := by
  have e : 2 ^ 8 ≤ 2 ^ i := Nat.pow_le_pow_right (by decide) hi
  exact Nat.testBit_lt_two_pow (by omega)
theorem bN_0 (y : Int64) {c : Nat} (h : c < 256) : bN (lShl y 8 ||| i2L (c : Int)) 0 = c := by
  refine Nat.eq_of_testBit_eq (fun i => ?_)
  rw [bN_bit _ (by decide), tL_or, tL_shl ⟨by decide, by decide⟩, tL_i2L h]
  by_cases q : i < 8
  · rw [decide_eq_true q, decide_eq_false (show ¬ (8 : Int).toNat ≤ 8 * 0 + i by show ¬ 8 ≤ 8 * 0 + i; omega), Bool.false_and, Bool.and_false, Bool.false_or, Bool.true_and, Nat.mul_zero, Nat.zero_add]
  · rw [decide_eq_false q, Bool.false_and, tb_hi h (by omega)]
theorem bN_S (y : Int64) {c n : Nat} (h : c < 256) (hn : n < 7) : bN (lShl y 8 ||| i2L (c : Int)) (n + 1) = bN y n := by
  refine Nat.eq_of_testBit_eq (fun i => ?_)
  rw [bN_bit _ (by omega), bN_bit _ (by omega), tL_or, tL_shl ⟨by decide, by decide⟩, tL_i2L h, tb_hi h (by omega), Bool.or_false]
  by_cases q : i < 8
  · rw [decide_eq_true (show 8 * (n + 1) + i < 64 by omega), decide_eq_true (show (8 : Int).toNat ≤ 8 * (n + 1) + i by show 8 ≤ 8 * (n + 1) + i; omega), Bool.true_and, Bool.true_and, show 8 * (n + 1) + i - (8 : Int).toNat = 8 * n + i by show 8 * (n + 1) + i - 8 = 8 * n + i; omega]
  · rw [decide_eq_false q, Bool.false_and, Bool.false_and]
theorem bDn_S (y : Int64) {c : Nat} (h : 0 < c ∧ c < 256) : ∀ n : Nat, n ≤ 7 → bDn (lShl y 8 ||| i2L (c : Int)) (n + 1) = bDn y n ++ [c] := by
  intro n
  induction n with
  | zero =>
    intro _
    show (if bN (lShl y 8 ||| i2L (c : Int)) 0 = 0 then [] else [bN (lShl y 8 ||| i2L (c : Int)) 0]) ++ [] = [] ++ [c]
    rw [bN_0 y h.2, if_neg (by omega)]
    rfl
  | succ n ih =>
    intro hn
    show (if bN (lShl y 8 ||| i2L (c : Int)) (n + 1) = 0 then [] else [bN (lShl y 8 ||| i2L (c : Int)) (n + 1)]) ++ bDn (lShl y 8 ||| i2L (c : Int)) (n + 1) = ((if bN y n = 0 then [] else [bN y n]) ++ bDn y n) ++ [c]
    rw [bN_S y h.2 (by omega), ih (by omega), List.append_assoc]
def wW (l : List Nat) : Int64 := l.foldl (fun (y : Int64) (c : Nat) => lShl y 8 ||| i2L (c : Int)) 0
theorem wW_snoc (l : List Nat) (c : Nat) : wW (l ++ [c]) = lShl (wW l) 8 ||| i2L (c : Int) := by
  unfold wW
  rw [List.foldl_append]
  rfl
theorem bDn_0 : ∀ n : Nat, n ≤ 8 → bDn 0 n = [] := by decide +kernel
theorem wW_bytes : ∀ (n : Nat) (l : List Nat), l.length ≤ n → n ≤ 8 → (∀ c ∈ l, 0 < c ∧ c < 256) → bDn (wW l) n = l := by
  intro n
  induction n with
  | zero =>
    intro l hl _ _
    have : l = [] := List.length_eq_zero_iff.mp (by omega)
    rw [this]
    rfl
  | succ n ih =>
    intro l hl hn hc
    rcases List.eq_nil_or_concat l with e | ⟨b, c, e⟩
    · rw [e]
      exact bDn_0 _ hn
    · rw [List.concat_eq_append] at e
      rw [e, wW_snoc, bDn_S _ (hc c (by rw [e]; exact List.mem_append_right _ (List.mem_singleton.mpr rfl))) n (by omega)]
      rw [ih b (by rw [e, List.length_append] at hl; simp at hl; omega) (by omega) (fun x hx => hc x (by rw [e]; exact List.mem_append_left _ hx))]
theorem take_snoc {tl : List Nat} {k : Nat} (h : k < tl.length) : tl.take (k + 1) = tl.take k ++ [tl.getD k 0] := by
  rw [List.take_add_one, List.getElem?_eq_getElem h]
  rw [List.getD_eq_getElem?_getD, List.getElem?_eq_getElem h]
  rfl
end LLO
section LLP
variable {Q : PO → PW → Prop} {tl : List Nat} {H : Nat → Row} {n : Nat} {sn : Nat} {sf : Nat → Int32} {m2 : Row}
/-- what stands while the text is put in -/
def LI (w : PW) (tl : List Nat) (H : Nat → Row) (n : Nat) (sn : Nat) (sf : Nat → Int32) : Prop := Sh w ∧ Tx w tl ∧ HR w H n ∧ Sc w sn sf
theorem LI.go {w w2 : PW} (h : LI w tl H n sn sf) (s2 : Sh w2) (f : ∀ c, c ≠ 135 → c ≠ 136 → w2.2.2 c = w.2.2 c) : LI w2 tl H n sn sf :=
  ⟨s2, (f pTX (by decide) (by decide)).trans h.2.1, h.2.2.1.cells (fun c hc => f c (by omega) (by omega)), (f pSC (by decide) (by decide)).trans h.2.2.2⟩
theorem l216_5 (htl : tlOk tl) (h7 : tl.length ≤ 700) (hnz : ∀ c ∈ tl, 0 < c ∧ c < 256) (h : ∀ w', LI w' tl H n sn sf → TX w' tl → pC 39 [.ref 0] w' (kI fun u w2 => Sh w2 ∧ Q (.inl (some (iv u))) w2)) :
    ∀ d k : Nat, k + d = tl.length → ∀ w, LI w tl H n sn sf → ∀ a b : List Nat, a ++ b = tl.take k → b.length = k % 8 → TX w a → (k = tl.length → b = []) → pX 216 5 [some (.ref 0), some (.ref pTX), some (.long (wW b)), none, some (iv (k : Nat))] [] w Q := by
  intro d
  induction d with
  | zero =>
    intro k hk w l a b hab hb ht hend
    have e := hend (by omega)
    refine v216_5 l.1 l.2.1 htl (bdk (by omega)) ⟨fun _ => ?_, fun q => by omega⟩
    rw [e, List.append_nil, show k = tl.length by omega, List.take_length] at hab
    rw [hab] at ht
    exact h w l ht
  | succ d ih =>
    intro k hk w l a b hab hb ht hend
    have hc : 0 < tl.getD k 0 ∧ tl.getD k 0 < 256 := by
      refine hnz _ ?_
      rw [List.getD_eq_getElem?_getD, List.getElem?_eq_getElem (show k < tl.length by omega)]
      exact List.getElem_mem _
    have hm : ∀ c ∈ b ++ [tl.getD k 0], 0 < c ∧ c < 256 := fun c hc' => by
      rcases List.mem_append.mp hc' with z | z
      · exact hnz c (List.mem_of_mem_take (by rw [← hab]; exact List.mem_append_right _ z))
      · rw [List.mem_singleton.mp z]
        exact hc
    have eW := wW_snoc b (tl.getD k 0)
    have hab2 : a ++ (b ++ [tl.getD k 0]) = tl.take (k + 1) := by
      rw [take_snoc (by omega), ← hab, List.append_assoc]
    have hl2 : (b ++ [tl.getD k 0]).length = k % 8 + 1 := by rw [List.length_append, hb]; rfl
    have hby := wW_bytes 8 _ (by rw [hl2]; omega) (Nat.le_refl _) hm
    have hlen : (tl.take (k + 1)).length = k + 1 := by rw [List.length_take]; omega
    have et : ((k : Nat) : Int).tmod 8 = ((k % 8 : Nat) : Int) := by rw [Int.tmod_eq_emod_of_nonneg (by omega), Int.natCast_emod]; rfl
    have put : ((k + 1 = tl.length) ∨ (k + 1) % 8 = 0) → pC 10 [.ref 0, .long (wW (b ++ [tl.getD k 0]))] w (kI fun _ w2 => Sh w2 ∧ pX 216 5 [some (.ref 0), some (.ref pTX), some (.long 0), none, some (iv ((k : Int) + 1))] [] w2 Q) := fun q => by
      refine c10 l.1 ht (fun z => absurd ?_ z) (fun _ w2 s2 t2 f2 => ⟨s2, ?_⟩)
      · rw [hby, hab2, hlen]
        omega
      · rw [hby, hab2] at t2
        have := ih (k + 1) (by omega) w2 (l.go s2 f2)
        rcases q with q | q
        · have t3 := this (tl.take (k + 1)) [] (List.append_nil _)
          by_cases z : (k + 1) % 8 = 0
          · exact t3 z.symm t2 (fun _ => rfl)
          · refine v216_5 s2 (l.go s2 f2).2.1 htl (bdk (n := k + 1) (by omega)) ⟨fun _ => ?_, fun q => by omega⟩
            rw [q, List.take_length] at t2
            exact h w2 (l.go s2 f2) t2
        · exact this (tl.take (k + 1)) [] (List.append_nil _) q.symm t2 (fun _ => rfl)
    rw [eW] at put
    refine v216_5 l.1 l.2.1 htl (bdk (by omega)) ⟨fun q => by omega, fun _ => ⟨⟨by omega, by omega⟩, ?_⟩⟩
    rw [et, Int.toNat_natCast]
    refine ⟨bdk (by omega), fun q => put (Or.inr (by omega)), fun q => ⟨⟨by omega, by omega⟩, fun q2 => put (Or.inl (by omega)), fun q2 => ?_⟩⟩
    rw [← eW]
    exact ih (k + 1) (by omega) w l a (b ++ [tl.getD k 0]) hab2 (by rw [hl2]; omega) ht (fun q3 => by omega)
/-- load: the text is put in and read -/
theorem q216 {w : PW} (htl : tlOk tl) (h7 : tl.length ≤ 700) (hnz : ∀ c ∈ tl, 0 < c ∧ c < 256) (hl : LI w tl H n sn sf) (ht : TX w []) (hm : sLoad tl = .inr m2) (h : ∀ w', LW w' m2 H 0 none sn sf → Q (rI (m2 5)) w') : pC 216 [.ref 0, .ref pTX] w Q := by
  refine e216 hl.1 hl.2.1 htl (l216_5 htl h7 hnz (fun w1 l1 t1 => c39 l1.1 t1 l1.2.2.1 (fun kk aa ss e => ?_) (fun m3 e w2 s2 f2 t2 _ _ b2 h2 => ?_)) tl.length 0 (Nat.zero_add _) w hl [] [] rfl rfl ht (fun _ => rfl))
  · rw [hm] at e
    exact absurd e (by intro z; cases z)
  · rw [hm] at e
    cases e
    have h5 := b2.ok.n
    refine kI_iv ⟨by omega, by omega⟩ ⟨s2, h w2 ⟨s2, b2, h2 H, ?_, fun r hr => absurd hr (by intro z; cases z)⟩⟩
    exact (f2 pSC (by decide) (by decide)).trans l1.2.2.2
end LLP
