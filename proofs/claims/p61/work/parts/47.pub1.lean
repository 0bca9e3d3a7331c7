/-! THE CLASS's FACE: questions -/
def rI (z : Int) : PO := .inl (some (iv z))
def spU (m : Row) (x : Int) (r : PO) : PO := if 0 ≤ x ∧ x < m 1 then r else .inr 1
def spS (m : Row) (x : Int) (r : PO) : PO := if 0 ≤ x ∧ x < m 0 then r else .inr 1
def spT (m : Row) (x : Int) (r : PO) : PO := if 0 ≤ x ∧ x < m 4 then r else .inr 2
def spN (m : Row) (x : Int) (r : PO) : PO := if 0 ≤ x ∧ x < m 5 then r else .inr 2
def spR (lo hi x : Int) (r : PO) : PO := if lo ≤ x ∧ x ≤ hi then r else .inr 1
theorem sp_t {P : Prop} [Decidable P] {E : Nat} {r : PO} {w : PW} {Q : PO → PW → Prop} (h : Q (if P then r else .inr E) w) (q : P) : Q r w := by rw [if_pos q] at h; exact h
theorem sp_f {P : Prop} [Decidable P] {E : Nat} {r : PO} {w : PW} {Q : PO → PW → Prop} (h : Q (if P then r else .inr E) w) (q : ¬ P) : Q (.inr E) w := by rw [if_neg q] at h; exact h
theorem nat_of {x : Int} (h : 0 ≤ x) : ∃ n : Nat, x = n := ⟨x.toNat, by omega⟩
def sp79 (m : Row) (x1 x2 x3 : Int) : PO := spU m x1 (spS m x2 (spT m x3 (rI (if rPin m x1.toNat x2.toNat x3.toNat = true then 1 else 0))))
/-! 79: PinBarrel.hasPin(III)Z -/
theorem b79 : mB 79 = cX8_hasPin := rfl
theorem r79 : mR 79 = (some .boolean) := rfl
theorem d79_0 : decode cX8_hasPin 0 = .ok (.aload_n 0, 1) := by decide +kernel
theorem d79_1 : decode cX8_hasPin 1 = .ok (.iload_n 1, 1) := by decide +kernel
theorem d79_2 : decode cX8_hasPin 2 = .ok (.invokevirtual 189, 3) := by decide +kernel
theorem d79_5 : decode cX8_hasPin 5 = .ok (.aload_n 0, 1) := by decide +kernel
theorem d79_6 : decode cX8_hasPin 6 = .ok (.iload_n 2, 1) := by decide +kernel
theorem d79_7 : decode cX8_hasPin 7 = .ok (.invokevirtual 192, 3) := by decide +kernel
theorem d79_10 : decode cX8_hasPin 10 = .ok (.aload_n 0, 1) := by decide +kernel
theorem d79_11 : decode cX8_hasPin 11 = .ok (.iload_n 3, 1) := by decide +kernel
theorem d79_12 : decode cX8_hasPin 12 = .ok (.invokevirtual 147, 3) := by decide +kernel
theorem d79_15 : decode cX8_hasPin 15 = .ok (.aload_n 0, 1) := by decide +kernel
theorem d79_16 : decode cX8_hasPin 16 = .ok (.getfield 12, 3) := by decide +kernel
theorem d79_19 : decode cX8_hasPin 19 = .ok (.iload_n 1, 1) := by decide +kernel
theorem d79_20 : decode cX8_hasPin 20 = .ok (.iload_n 2, 1) := by decide +kernel
theorem d79_21 : decode cX8_hasPin 21 = .ok (.iload_n 3, 1) := by decide +kernel
theorem d79_22 : decode cX8_hasPin 22 = .ok (.invokevirtual 195, 3) := by decide +kernel
theorem d79_25 : decode cX8_hasPin 25 = .ok (.ireturn, 1) := by decide +kernel
theorem v79_0 {w : PW} {Q : PO → PW → Prop} {x1 : Int} {x2 : Int} {x3 : Int} (hs : Sh w) (hx1 : bd x1) (hx2 : bd x2) (hx3 : bd x3) (h : (bd ((gI w 1 1) - 1)) ∧ ((0 ≤ x1 ∧ x1 < gI w 1 1) → (bd ((gI w 1 0) - 1)) ∧ ((0 ≤ x2 ∧ x2 < gI w 1 0) → ((0 ≤ x3 ∧ x3 < gI w 1 4) → (bd ((gI w 1 1) * x3 + x1)) ∧ (0 ≤ x2 ∧ x2 < 64) ∧ Q (.inl (some (iv (if tL (lP w 1 ((gI w 1 1) * x3 + x1)) (x2).toNat = true then 1 else 0)))) w) ∧ (¬ (0 ≤ x3 ∧ x3 < gI w 1 4) → Q (.inr 2) w)) ∧ (¬ (0 ≤ x2 ∧ x2 < gI w 1 0) → Q (.inr 1) w)) ∧ (¬ (0 ≤ x1 ∧ x1 < gI w 1 1) → Q (.inr 1) w)) : pX 79 0 [some (.ref 0), some (iv x1), some (iv x2), some (iv x3)] [] w Q :=
  w_f b79 d79_0 rfl rfl rfl <| w_f b79 d79_1 rfl rfl rfl <| w_cc b79 d79_2 rfl (pcl_v (n := 1) rfl rfl rfl (by decide +kernel) (sh_isOb hs (tlt 0 rfl) tbC_0) rfl rfl) rfl <| c77 hs hx1 h.1 (fun c1 => w_f b79 d79_5 rfl rfl rfl <| w_f b79 d79_6 rfl rfl rfl <| w_cc b79 d79_7 rfl (pcl_v (n := 1) rfl rfl rfl (by decide +kernel) (sh_isOb hs (tlt 0 rfl) tbC_0) rfl rfl) rfl <| c78 hs hx2 (h.2.1 c1).1 (fun c2 => w_f b79 d79_10 rfl rfl rfl <| w_f b79 d79_11 rfl rfl rfl <| w_cc b79 d79_12 rfl (pcl_v (n := 1) rfl rfl rfl (by decide +kernel) (sh_isOb hs (tlt 0 rfl) tbC_0) rfl rfl) rfl <| c67 hs hx3 (fun c3 => w_f b79 d79_15 rfl rfl rfl <| w_gr b79 d79_16 rfl rfl hs (tlt 0 rfl) tbC_0 rfl (bxr0 (bxc 1 rfl)) <| w_f b79 d79_19 rfl rfl rfl <| w_f b79 d79_20 rfl rfl rfl <| w_f b79 d79_21 rfl rfl rfl <| w_cc b79 d79_22 rfl (pcl_v (n := 3) rfl rfl rfl (by decide +kernel) (sh_isOb hs (bx00 (bxc 1 rfl)) (tb0 (bxc 1 rfl))) rfl rfl) rfl <| c43 hs (bxc 1 rfl) hx1 hx2 hx3 (((h.2.1 c1).2.1 c2).1 c3).1 (((h.2.1 c1).2.1 c2).1 c3).2.1 <| w_rz b79 d79_25 r79 (zor _) (((h.2.1 c1).2.1 c2).1 c3).2.2) (fun c3 => ((h.2.1 c1).2.1 c2).2 c3)) (fun c2 => (h.2.1 c1).2.2 c2)) (fun c1 => h.2.2 c1)
theorem e79 {w : PW} {Q : PO → PW → Prop} {x1 : Int} {x2 : Int} {x3 : Int} (hs : Sh w) (hx1 : bd x1) (hx2 : bd x2) (hx3 : bd x3) (h : (bd ((gI w 1 1) - 1)) ∧ ((0 ≤ x1 ∧ x1 < gI w 1 1) → (bd ((gI w 1 0) - 1)) ∧ ((0 ≤ x2 ∧ x2 < gI w 1 0) → ((0 ≤ x3 ∧ x3 < gI w 1 4) → (bd ((gI w 1 1) * x3 + x1)) ∧ (0 ≤ x2 ∧ x2 < 64) ∧ Q (.inl (some (iv (if tL (lP w 1 ((gI w 1 1) * x3 + x1)) (x2).toNat = true then 1 else 0)))) w) ∧ (¬ (0 ≤ x3 ∧ x3 < gI w 1 4) → Q (.inr 2) w)) ∧ (¬ (0 ≤ x2 ∧ x2 < gI w 1 0) → Q (.inr 1) w)) ∧ (¬ (0 ≤ x1 ∧ x1 < gI w 1 1) → Q (.inr 1) w)) : pC 79 [.ref 0, iv x1, iv x2, iv x3] w Q :=
  (pC_in (Nat.le_of_ble_eq_true rfl) rfl Q).mpr (v79_0 hs hx1 hx2 hx3 h)
/-! 85: PinBarrel.chord(II)I -/
theorem b85 : mB 85 = cX8_chord := rfl
theorem r85 : mR 85 = (some .int) := rfl
theorem d85_0 : decode cX8_chord 0 = .ok (.aload_n 0, 1) := by decide +kernel
theorem d85_1 : decode cX8_chord 1 = .ok (.iload_n 1, 1) := by decide +kernel
theorem d85_2 : decode cX8_chord 2 = .ok (.invokevirtual 189, 3) := by decide +kernel
theorem d85_5 : decode cX8_chord 5 = .ok (.aload_n 0, 1) := by decide +kernel
theorem d85_6 : decode cX8_chord 6 = .ok (.iload_n 2, 1) := by decide +kernel
theorem d85_7 : decode cX8_chord 7 = .ok (.invokevirtual 192, 3) := by decide +kernel
theorem d85_10 : decode cX8_chord 10 = .ok (.aload_n 0, 1) := by decide +kernel
theorem d85_11 : decode cX8_chord 11 = .ok (.getfield 12, 3) := by decide +kernel
theorem d85_14 : decode cX8_chord 14 = .ok (.iload_n 1, 1) := by decide +kernel
theorem d85_15 : decode cX8_chord 15 = .ok (.iload_n 2, 1) := by decide +kernel
theorem d85_16 : decode cX8_chord 16 = .ok (.invokevirtual 212, 3) := by decide +kernel
theorem d85_19 : decode cX8_chord 19 = .ok (.ireturn, 1) := by decide +kernel
theorem v85_0 {w : PW} {Q : PO → PW → Prop} {x1 : Int} {x2 : Int} (hs : Sh w) (hx1 : bd x1) (hx2 : bd x2) (h : (bd ((gI w 1 1) - 1)) ∧ ((0 ≤ x1 ∧ x1 < gI w 1 1) → (bd ((gI w 1 0) - 1)) ∧ ((0 ≤ x2 ∧ x2 < gI w 1 0) → pC 84 [.ref 1, iv x1, iv x2] w (kI fun u4 w3 => Sh w3 ∧ Q (.inl (some (iv u4))) w3)) ∧ (¬ (0 ≤ x2 ∧ x2 < gI w 1 0) → Q (.inr 1) w)) ∧ (¬ (0 ≤ x1 ∧ x1 < gI w 1 1) → Q (.inr 1) w)) : pX 85 0 [some (.ref 0), some (iv x1), some (iv x2)] [] w Q :=
  w_f b85 d85_0 rfl rfl rfl <| w_f b85 d85_1 rfl rfl rfl <| w_cc b85 d85_2 rfl (pcl_v (n := 1) rfl rfl rfl (by decide +kernel) (sh_isOb hs (tlt 0 rfl) tbC_0) rfl rfl) rfl <| c77 hs hx1 h.1 (fun c1 => w_f b85 d85_5 rfl rfl rfl <| w_f b85 d85_6 rfl rfl rfl <| w_cc b85 d85_7 rfl (pcl_v (n := 1) rfl rfl rfl (by decide +kernel) (sh_isOb hs (tlt 0 rfl) tbC_0) rfl rfl) rfl <| c78 hs hx2 (h.2.1 c1).1 (fun c2 => w_f b85 d85_10 rfl rfl rfl <| w_gr b85 d85_11 rfl rfl hs (tlt 0 rfl) tbC_0 rfl (bxr0 (bxc 1 rfl)) <| w_f b85 d85_14 rfl rfl rfl <| w_f b85 d85_15 rfl rfl rfl <| w_c b85 d85_16 rfl (pcl_v (n := 2) rfl rfl rfl (by decide +kernel) (sh_isOb hs (bx00 (bxc 1 rfl)) (tb0 (bxc 1 rfl))) rfl rfl) rfl _ (hK_I fun u4 w3 hbu4 hkw3 => w_ri b85 d85_19 r85 hkw3.2) ((h.2.1 c1).2.1 c2)) (fun c2 => (h.2.1 c1).2.2 c2)) (fun c1 => h.2.2 c1)
theorem e85 {w : PW} {Q : PO → PW → Prop} {x1 : Int} {x2 : Int} (hs : Sh w) (hx1 : bd x1) (hx2 : bd x2) (h : (bd ((gI w 1 1) - 1)) ∧ ((0 ≤ x1 ∧ x1 < gI w 1 1) → (bd ((gI w 1 0) - 1)) ∧ ((0 ≤ x2 ∧ x2 < gI w 1 0) → pC 84 [.ref 1, iv x1, iv x2] w (kI fun u4 w3 => Sh w3 ∧ Q (.inl (some (iv u4))) w3)) ∧ (¬ (0 ≤ x2 ∧ x2 < gI w 1 0) → Q (.inr 1) w)) ∧ (¬ (0 ≤ x1 ∧ x1 < gI w 1 1) → Q (.inr 1) w)) : pC 85 [.ref 0, iv x1, iv x2] w Q :=
  (pC_in (Nat.le_of_ble_eq_true rfl) rfl Q).mpr (v85_0 hs hx1 hx2 h)
theorem c79 {w : PW} {Q : PO → PW → Prop} {m : Row} {x1 x2 x3 : Int} (hs : Sh w) (hB : BR w 1 m) (hx1 : bd x1) (hx2 : bd x2) (hx3 : bd x3) (h : Q (sp79 m x1 x2 x3) w) : pC 79 [.ref 0, iv x1, iv x2, iv x3] w Q := by
  have h0 := hB.ok.s
  have h1 := hB.ok.u
  have h4 := hB.ok.t
  refine e79 hs hx1 hx2 hx3 ?_
  rw [hB.u, hB.s, hB.t]
  refine ⟨⟨by omega, by omega⟩, fun q1 => ⟨⟨by omega, by omega⟩, fun q2 => ⟨fun q3 => ?_, sp_f (sp_t (sp_t h q1) q2)⟩, sp_f (sp_t h q1)⟩, sp_f h⟩
  have := sp_t (sp_t (sp_t h q1) q2) q3
  obtain ⟨t, rfl⟩ := nat_of q3.1
  rw [hB.pin q1 q2 q3.2]
  exact ⟨hB.tb q1 (by omega), by omega, this⟩
def sp82 (m : Row) (x1 x2 x3 : Int) : PO := spU m x1 (spT m x2 (rI (sel (fun s => rPin m x1.toNat s x2.toNat) x3 (m 0).toNat)))
def sp85 (m : Row) (x1 x2 : Int) : PO := spU m x1 (spS m x2 (rI (m (251 + 64 * x1.toNat + x2.toNat))))
theorem c85 {w : PW} {Q : PO → PW → Prop} {m : Row} {x1 x2 : Int} (hs : Sh w) (hB : BR w 1 m) (hx1 : bd x1) (hx2 : bd x2) (h : Q (sp85 m x1 x2) w) : pC 85 [.ref 0, iv x1, iv x2] w Q := by
  have h0 := hB.ok.s
  have h1 := hB.ok.u
  refine e85 hs hx1 hx2 ?_
  rw [hB.u, hB.s]
  refine ⟨⟨by omega, by omega⟩, fun q1 => ⟨⟨by omega, by omega⟩, fun q2 => ?_, sp_f (sp_t h q1)⟩, sp_f h⟩
  have := sp_t (sp_t h q1) q2
  obtain ⟨s, rfl⟩ := nat_of q2.1
  obtain ⟨u, rfl⟩ := nat_of q1.1
  exact c84 hs hB q1.2 q2.2 (kI_iv (hB.ok.P q1.2 q2.2).1 ⟨hs, this⟩)
/-- the fullest step, among those below -/
def sFullA (m : Row) (u : Nat) : Nat → Int × Nat
  | 0 => (-1, 0)
  | s + 1 => if (sFullA m u s).2 < cnt (fun t => rPin m u s t) (m 4).toNat then ((s : Int), cnt (fun t => rPin m u s t) (m 4).toNat) else sFullA m u s
theorem sFullA_bd (m : Row) (u : Nat) : ∀ n, -1 ≤ (sFullA m u n).1 ∧ (sFullA m u n).1 < n ∧ (sFullA m u n).2 ≤ (m 4).toNat := by
  intro n
  induction n with
  | zero => exact ⟨by show (-1 : Int) ≤ -1; decide, by show (-1 : Int) < 0; decide, Nat.zero_le _⟩
  | succ n ih =>
    unfold sFullA
    split
    · have := cnt_le (fun t => rPin m u n t) (m 4).toNat
      exact ⟨by show (-1 : Int) ≤ (n : Int); omega, by show (n : Int) < ((n + 1 : Nat) : Int); omega, this⟩
    · omega
def sp88 (m : Row) (x1 : Int) : PO := spU m x1 (rI (sFullA m x1.toNat (m 0).toNat).1)
theorem set_cnt {m : Row} (h : RowOK m) {u s : Nat} (hu : (u : Int) < m 1) (hS : (s : Int) < m 0) {k : Nat} (hk : (m 4).toNat ≤ k ∧ k ≤ 32) : cnt (tI (m (251 + 64 * u + s))) k = cnt (fun t => rPin m u s t) (m 4).toNat := by
  have hp := h.P hu hS
  refine (cnt_gap (P := tI (m (251 + 64 * u + s))) hk.1 (fun t h1 h2 => ?_)).symm
  cases q : tI (m (251 + 64 * u + s)) t with
  | false => rfl
  | true => have := hp.2 t (by omega) q; omega
theorem set_pos {m : Row} (h : RowOK m) {u s : Nat} (hu : (u : Int) < m 1) (hS : (s : Int) < m 0) : 0 ≤ m (251 + 64 * u + s) ∧ m (251 + 64 * u + s) < 4096 := by
  have hp := h.P hu hS
  have h4 := h.t
  have e : m (251 + 64 * u + s) = (((Int32.ofInt (m (251 + 64 * u + s))).toBitVec.toNat % 4096 : Nat) : Int) := by
    have hlt : (Int32.ofInt (m (251 + 64 * u + s))).toBitVec.toNat % 4096 < 4096 := Nat.mod_lt _ (by decide)
    refine tI_ext hp.1 ⟨by omega, by omega⟩ (fun t ht => ?_)
    rw [tI_nat ht, show (4096 : Nat) = 2 ^ 12 from rfl, Nat.testBit_mod_two_pow]
    show tI (m (251 + 64 * u + s)) t = (decide (t < 12) && tI (m (251 + 64 * u + s)) t)
    cases q : tI (m (251 + 64 * u + s)) t with
    | false => rw [Bool.and_false]
    | true => rw [decide_eq_true (by have := hp.2 t ht q; omega)]; rfl
  have hlt : (Int32.ofInt (m (251 + 64 * u + s))).toBitVec.toNat % 4096 < 4096 := Nat.mod_lt _ (by decide)
  omega
/-! 88: PinBarrel.fullest(I)I -/
theorem b88 : mB 88 = cX8_fullest := rfl
theorem r88 : mR 88 = (some .int) := rfl
theorem d88_0 : decode cX8_fullest 0 = .ok (.aload_n 0, 1) := by decide +kernel
theorem d88_1 : decode cX8_fullest 1 = .ok (.iload_n 1, 1) := by decide +kernel
theorem d88_2 : decode cX8_fullest 2 = .ok (.invokevirtual 189, 3) := by decide +kernel
theorem d88_5 : decode cX8_fullest 5 = .ok (.iconst (-1), 1) := by decide +kernel
theorem d88_6 : decode cX8_fullest 6 = .ok (.istore_n 2, 1) := by decide +kernel
theorem d88_7 : decode cX8_fullest 7 = .ok (.iconst 0, 1) := by decide +kernel
theorem d88_8 : decode cX8_fullest 8 = .ok (.istore_n 3, 1) := by decide +kernel
theorem d88_9 : decode cX8_fullest 9 = .ok (.iconst 0, 1) := by decide +kernel
theorem d88_10 : decode cX8_fullest 10 = .ok (.istore 4, 2) := by decide +kernel
theorem d88_12 : decode cX8_fullest 12 = .ok (.iload 4, 2) := by decide +kernel
theorem d88_14 : decode cX8_fullest 14 = .ok (.aload_n 0, 1) := by decide +kernel
theorem d88_15 : decode cX8_fullest 15 = .ok (.getfield 12, 3) := by decide +kernel
theorem d88_18 : decode cX8_fullest 18 = .ok (.getfield 96, 3) := by decide +kernel
theorem d88_21 : decode cX8_fullest 21 = .ok (.if_icmp .ge 36, 3) := by decide +kernel
theorem d88_24 : decode cX8_fullest 24 = .ok (.aload_n 0, 1) := by decide +kernel
theorem d88_25 : decode cX8_fullest 25 = .ok (.getfield 12, 3) := by decide +kernel
theorem d88_28 : decode cX8_fullest 28 = .ok (.iload_n 1, 1) := by decide +kernel
theorem d88_29 : decode cX8_fullest 29 = .ok (.iload 4, 2) := by decide +kernel
theorem d88_31 : decode cX8_fullest 31 = .ok (.invokevirtual 212, 3) := by decide +kernel
theorem d88_34 : decode cX8_fullest 34 = .ok (.invokestatic 215, 3) := by decide +kernel
theorem d88_37 : decode cX8_fullest 37 = .ok (.istore 5, 2) := by decide +kernel
theorem d88_39 : decode cX8_fullest 39 = .ok (.iload 5, 2) := by decide +kernel
theorem d88_41 : decode cX8_fullest 41 = .ok (.iload_n 3, 1) := by decide +kernel
theorem d88_42 : decode cX8_fullest 42 = .ok (.if_icmp .le 9, 3) := by decide +kernel
theorem d88_45 : decode cX8_fullest 45 = .ok (.iload 5, 2) := by decide +kernel
theorem d88_47 : decode cX8_fullest 47 = .ok (.istore_n 3, 1) := by decide +kernel
theorem d88_48 : decode cX8_fullest 48 = .ok (.iload 4, 2) := by decide +kernel
theorem d88_50 : decode cX8_fullest 50 = .ok (.istore_n 2, 1) := by decide +kernel
theorem d88_51 : decode cX8_fullest 51 = .ok (.iinc 4 1, 3) := by decide +kernel
theorem d88_54 : decode cX8_fullest 54 = .ok (.goto (-42), 3) := by decide +kernel
theorem d88_57 : decode cX8_fullest 57 = .ok (.iload_n 2, 1) := by decide +kernel
theorem d88_58 : decode cX8_fullest 58 = .ok (.ireturn, 1) := by decide +kernel
theorem v88_0 {w : PW} {Q : PO → PW → Prop} {x1 : Int} (hs : Sh w) (hx1 : bd x1) (h : (bd ((gI w 1 1) - 1)) ∧ ((0 ≤ x1 ∧ x1 < gI w 1 1) → pX 88 12 [some (.ref 0), some (iv x1), some (iv ((-1))), some (iv 0), some (iv 0), none] [] w Q) ∧ (¬ (0 ≤ x1 ∧ x1 < gI w 1 1) → Q (.inr 1) w)) : pX 88 0 [some (.ref 0), some (iv x1), none, none, none, none] [] w Q :=
  w_f b88 d88_0 rfl rfl rfl <| w_f b88 d88_1 rfl rfl rfl <| w_cc b88 d88_2 rfl (pcl_v (n := 1) rfl rfl rfl (by decide +kernel) (sh_isOb hs (tlt 0 rfl) tbC_0) rfl rfl) rfl <| c77 hs hx1 h.1 (fun c1 => w_f b88 d88_5 rfl rfl rfl <| w_f b88 d88_6 rfl rfl rfl <| w_f b88 d88_7 rfl rfl rfl <| w_f b88 d88_8 rfl rfl rfl <| w_f b88 d88_9 rfl rfl rfl <| w_f b88 d88_10 rfl rfl rfl <| (h.2.1 c1)) (fun c1 => h.2.2 c1)
theorem e88 {w : PW} {Q : PO → PW → Prop} {x1 : Int} (hs : Sh w) (hx1 : bd x1) (h : (bd ((gI w 1 1) - 1)) ∧ ((0 ≤ x1 ∧ x1 < gI w 1 1) → pX 88 12 [some (.ref 0), some (iv x1), some (iv ((-1))), some (iv 0), some (iv 0), none] [] w Q) ∧ (¬ (0 ≤ x1 ∧ x1 < gI w 1 1) → Q (.inr 1) w)) : pC 88 [.ref 0, iv x1] w Q :=
  (pC_in (Nat.le_of_ble_eq_true rfl) rfl Q).mpr (v88_0 hs hx1 h)
theorem v88_12 {w : PW} {Q : PO → PW → Prop} {x1 : Int} {x2 : Int} {x3 : Int} {x4 : Int} {o5 : Option Value} (hs : Sh w) (hx1 : bd x1) (hx2 : bd x2) (hx3 : bd x3) (hx4 : bd x4) (ho5 : pc2 o5 = false) (h : ((gI w 1 0) ≤ x4 → Q (.inl (some (iv x2))) w) ∧ (x4 < (gI w 1 0) → pC 84 [.ref 1, iv x1, iv x4] w (kI fun u3 w2 => Sh w2 ∧ (0 ≤ u3 ∧ u3 < 4096) ∧ (((cnt (tI u3) 32 : Int)) ≤ x3 → pX 88 12 [some (.ref 0), some (iv x1), some (iv x2), some (iv x3), some (iv (x4 + 1)), some (iv ((cnt (tI u3) 32 : Int)))] [] w2 Q) ∧ (x3 < ((cnt (tI u3) 32 : Int)) → pX 88 12 [some (.ref 0), some (iv x1), some (iv x4), some (iv ((cnt (tI u3) 32 : Int))), some (iv (x4 + 1)), some (iv ((cnt (tI u3) 32 : Int)))] [] w2 Q)))) : pX 88 12 [some (.ref 0), some (iv x1), some (iv x2), some (iv x3), some (iv x4), o5] [] w Q :=
  w_f b88 d88_12 rfl rfl rfl <| w_f b88 d88_14 rfl rfl rfl <| w_gr b88 d88_15 rfl rfl hs (tlt 0 rfl) tbC_0 rfl (bxr0 (bxc 1 rfl)) <| w_gi b88 d88_18 rfl rfl hs (bx00 (bxc 1 rfl)) (tb0 (bxc 1 rfl)) rfl <| w_icge b88 d88_21 rfl rfl (by decide +kernel) hx4 (bd_gI _ _ _) (fun c1 => w_f b88 d88_57 rfl rfl rfl <| w_ri b88 d88_58 r88 (h.1 c1)) (fun c1 => w_f b88 d88_24 rfl rfl rfl <| w_gr b88 d88_25 rfl rfl hs (tlt 0 rfl) tbC_0 rfl (bxr0 (bxc 1 rfl)) <| w_f b88 d88_28 rfl rfl rfl <| w_f b88 d88_29 rfl rfl rfl <| w_c b88 d88_31 rfl (pcl_v (n := 2) rfl rfl rfl (by decide +kernel) (sh_isOb hs (bx00 (bxc 1 rfl)) (tb0 (bxc 1 rfl))) rfl rfl) rfl _ (hK_I fun u3 w2 hbu3 hkw2 => w_cc b88 d88_34 rfl (pcl_s1 (n := 1) rfl rfl rfl (by decide +kernel) rfl rfl) rfl <| c87 hkw2.1 hbu3 hkw2.2.1 <| w_f b88 d88_37 rfl rfl rfl <| w_f b88 d88_39 rfl rfl rfl <| w_f b88 d88_41 rfl rfl rfl <| w_icle b88 d88_42 rfl rfl (by decide +kernel) (bd_c32 _) hx3 (fun c4 => w_f b88 d88_51 rfl (pf_iinc rfl rfl) rfl <| w_j b88 d88_54 rfl (by decide +kernel) <| (hkw2.2.2.1 c4)) (fun c4 => w_f b88 d88_45 rfl rfl rfl <| w_f b88 d88_47 rfl rfl rfl <| w_f b88 d88_48 rfl rfl rfl <| w_f b88 d88_50 rfl rfl rfl <| w_f b88 d88_51 rfl (pf_iinc rfl rfl) rfl <| w_j b88 d88_54 rfl (by decide +kernel) <| (hkw2.2.2.2 c4))) (h.2 c1))
theorem l88_12 {w : PW} {Q : PO → PW → Prop} {u : Nat} {m : Row} (hs : Sh w) (hB : BR w 1 m) (hu : (u : Int) < m 1) (h : Q (rI (sFullA m u (m 0).toNat).1) w) : ∀ k i : Nat, i + k = (m 0).toNat → ∀ o5 : Option Value, pc2 o5 = false → pX 88 12 [some (.ref 0), some (iv (u : Nat)), some (iv (sFullA m u i).1), some (iv (sFullA m u i).2), some (iv (i : Nat)), o5] [] w Q := by
  have h0 := hB.ok.s
  have h1 := hB.ok.u
  have h4 := hB.ok.t
  intro k
  induction k with
  | zero =>
    intro i hi o5 ho
    have hb := sFullA_bd m u i
    refine v88_12 hs (bdk (by omega)) ⟨by omega, by omega⟩ (bdk (by omega)) (bdk (by omega)) ho ?_
    rw [hB.s]
    refine ⟨fun _ => ?_, fun q => by omega⟩
    rw [show (m 0).toNat = i from by omega] at h
    exact h
  | succ k ih =>
    intro i hi o5 ho
    have hb := sFullA_bd m u i
    have hS : (i : Int) < m 0 := by omega
    have hp := set_pos hB.ok hu hS
    refine v88_12 hs (bdk (by omega)) ⟨by omega, by omega⟩ (bdk (by omega)) (bdk (by omega)) ho ?_
    rw [hB.s]
    refine ⟨fun q => by omega, fun _ => c84 hs hB hu hS (kI_iv ⟨by omega, by omega⟩ ⟨hs, hp, ?_⟩)⟩
    rw [set_cnt hB.ok hu hS (k := 32) (by omega)]
    refine ⟨fun q => ?_, fun q => ?_⟩
    · have e : sFullA m u (i + 1) = sFullA m u i := if_neg (by omega)
      have := ih (i + 1) (by omega) (some (iv (cnt (fun t => rPin m u i t) (m 4).toNat : Nat))) rfl
      rw [e] at this
      exact this
    · have e : sFullA m u (i + 1) = ((i : Int), cnt (fun t => rPin m u i t) (m 4).toNat) := if_pos (by omega)
      have := ih (i + 1) (by omega) (some (iv (cnt (fun t => rPin m u i t) (m 4).toNat : Nat))) rfl
      rw [e] at this
      exact this
theorem c88 {w : PW} {Q : PO → PW → Prop} {m : Row} {x1 : Int} (hs : Sh w) (hB : BR w 1 m) (hx1 : bd x1) (h : Q (sp88 m x1) w) : pC 88 [.ref 0, iv x1] w Q := by
  have h1 := hB.ok.u
  refine e88 hs hx1 ?_
  rw [hB.u]
  refine ⟨⟨by omega, by omega⟩, fun q1 => ?_, sp_f h⟩
  have := sp_t h q1
  obtain ⟨u, rfl⟩ := nat_of q1.1
  exact l88_12 hs hB q1.2 this (m 0).toNat 0 (Nat.zero_add _) none rfl
/-! 93: PinBarrel.conflicts(I)I -/
theorem b93 : mB 93 = cX8_conflicts := rfl
theorem r93 : mR 93 = (some .int) := rfl
theorem d93_0 : decode cX8_conflicts 0 = .ok (.aload_n 0, 1) := by decide +kernel
theorem d93_1 : decode cX8_conflicts 1 = .ok (.iload_n 1, 1) := by decide +kernel
theorem d93_2 : decode cX8_conflicts 2 = .ok (.invokevirtual 189, 3) := by decide +kernel
theorem d93_5 : decode cX8_conflicts 5 = .ok (.aload_n 0, 1) := by decide +kernel
theorem d93_6 : decode cX8_conflicts 6 = .ok (.getfield 12, 3) := by decide +kernel
theorem d93_9 : decode cX8_conflicts 9 = .ok (.iload_n 1, 1) := by decide +kernel
theorem d93_10 : decode cX8_conflicts 10 = .ok (.invokevirtual 220, 3) := by decide +kernel
theorem d93_13 : decode cX8_conflicts 13 = .ok (.ireturn, 1) := by decide +kernel
theorem v93_0 {w : PW} {Q : PO → PW → Prop} {x1 : Int} (hs : Sh w) (hx1 : bd x1) (h : (bd ((gI w 1 1) - 1)) ∧ ((0 ≤ x1 ∧ x1 < gI w 1 1) → pC 92 [.ref 1, iv x1] w (kI fun u3 w2 => Sh w2 ∧ Q (.inl (some (iv u3))) w2)) ∧ (¬ (0 ≤ x1 ∧ x1 < gI w 1 1) → Q (.inr 1) w)) : pX 93 0 [some (.ref 0), some (iv x1)] [] w Q :=
  w_f b93 d93_0 rfl rfl rfl <| w_f b93 d93_1 rfl rfl rfl <| w_cc b93 d93_2 rfl (pcl_v (n := 1) rfl rfl rfl (by decide +kernel) (sh_isOb hs (tlt 0 rfl) tbC_0) rfl rfl) rfl <| c77 hs hx1 h.1 (fun c1 => w_f b93 d93_5 rfl rfl rfl <| w_gr b93 d93_6 rfl rfl hs (tlt 0 rfl) tbC_0 rfl (bxr0 (bxc 1 rfl)) <| w_f b93 d93_9 rfl rfl rfl <| w_c b93 d93_10 rfl (pcl_v (n := 1) rfl rfl rfl (by decide +kernel) (sh_isOb hs (bx00 (bxc 1 rfl)) (tb0 (bxc 1 rfl))) rfl rfl) rfl _ (hK_I fun u3 w2 hbu3 hkw2 => w_ri b93 d93_13 r93 hkw2.2) (h.2.1 c1)) (fun c1 => h.2.2 c1)
theorem e93 {w : PW} {Q : PO → PW → Prop} {x1 : Int} (hs : Sh w) (hx1 : bd x1) (h : (bd ((gI w 1 1) - 1)) ∧ ((0 ≤ x1 ∧ x1 < gI w 1 1) → pC 92 [.ref 1, iv x1] w (kI fun u3 w2 => Sh w2 ∧ Q (.inl (some (iv u3))) w2)) ∧ (¬ (0 ≤ x1 ∧ x1 < gI w 1 1) → Q (.inr 1) w)) : pC 93 [.ref 0, iv x1] w Q :=
  (pC_in (Nat.le_of_ble_eq_true rfl) rfl Q).mpr (v93_0 hs hx1 h)
/-! 108: PinBarrel.missing(I)I -/
theorem b108 : mB 108 = cX8_missing := rfl
theorem r108 : mR 108 = (some .int) := rfl
theorem d108_0 : decode cX8_missing 0 = .ok (.aload_n 0, 1) := by decide +kernel
theorem d108_1 : decode cX8_missing 1 = .ok (.iload_n 1, 1) := by decide +kernel
theorem d108_2 : decode cX8_missing 2 = .ok (.invokevirtual 189, 3) := by decide +kernel
theorem d108_5 : decode cX8_missing 5 = .ok (.aload_n 0, 1) := by decide +kernel
theorem d108_6 : decode cX8_missing 6 = .ok (.getfield 12, 3) := by decide +kernel
theorem d108_9 : decode cX8_missing 9 = .ok (.getfield 87, 3) := by decide +kernel
theorem d108_12 : decode cX8_missing 12 = .ok (.iload_n 1, 1) := by decide +kernel
theorem d108_13 : decode cX8_missing 13 = .ok (.invokevirtual 246, 3) := by decide +kernel
theorem d108_16 : decode cX8_missing 16 = .ok (.aload_n 0, 1) := by decide +kernel
theorem d108_17 : decode cX8_missing 17 = .ok (.getfield 12, 3) := by decide +kernel
theorem d108_20 : decode cX8_missing 20 = .ok (.iload_n 1, 1) := by decide +kernel
theorem d108_21 : decode cX8_missing 21 = .ok (.invokevirtual 249, 3) := by decide +kernel
theorem d108_24 : decode cX8_missing 24 = .ok (.isub, 1) := by decide +kernel
theorem d108_25 : decode cX8_missing 25 = .ok (.ireturn, 1) := by decide +kernel
theorem v108_0 {w : PW} {Q : PO → PW → Prop} {x1 : Int} (hs : Sh w) (hx1 : bd x1) (h : (bd ((gI w 1 1) - 1)) ∧ ((0 ≤ x1 ∧ x1 < gI w 1 1) → pC 106 [.ref (1 + 4), iv x1] w (kI fun u3 w2 => Sh w2 ∧ pC 107 [.ref 1, iv x1] w2 (kI fun u5 w4 => Sh w4 ∧ Q (.inl (some (iv (u3 - u5)))) w4))) ∧ (¬ (0 ≤ x1 ∧ x1 < gI w 1 1) → Q (.inr 1) w)) : pX 108 0 [some (.ref 0), some (iv x1)] [] w Q :=
  w_f b108 d108_0 rfl rfl rfl <| w_f b108 d108_1 rfl rfl rfl <| w_cc b108 d108_2 rfl (pcl_v (n := 1) rfl rfl rfl (by decide +kernel) (sh_isOb hs (tlt 0 rfl) tbC_0) rfl rfl) rfl <| c77 hs hx1 h.1 (fun c1 => w_f b108 d108_5 rfl rfl rfl <| w_gr b108 d108_6 rfl rfl hs (tlt 0 rfl) tbC_0 rfl (bxr0 (bxc 1 rfl)) <| w_gr b108 d108_9 rfl rfl hs (bx00 (bxc 1 rfl)) (tb0 (bxc 1 rfl)) rfl (bxr (bxc 1 rfl) 4 rfl) <| w_f b108 d108_12 rfl rfl rfl <| w_c b108 d108_13 rfl (pcl_v (n := 1) rfl rfl rfl (by decide +kernel) (sh_isOb hs (bxk (bxc 1 rfl) 4 rfl) (tb4 (bxc 1 rfl))) rfl rfl) rfl _ (hK_I fun u3 w2 hbu3 hkw2 => w_f b108 d108_16 rfl rfl rfl <| w_gr b108 d108_17 rfl rfl hkw2.1 (tlt 0 rfl) tbC_0 rfl (bxr0 (bxc 1 rfl)) <| w_f b108 d108_20 rfl rfl rfl <| w_c b108 d108_21 rfl (pcl_v (n := 1) rfl rfl rfl (by decide +kernel) (sh_isOb hkw2.1 (bx00 (bxc 1 rfl)) (tb0 (bxc 1 rfl))) rfl rfl) rfl _ (hK_I fun u5 w4 hbu5 hkw4 => w_f b108 d108_24 rfl (pf_isub _ _) rfl <| w_ri b108 d108_25 r108 hkw4.2) hkw2.2) (h.2.1 c1)) (fun c1 => h.2.2 c1)
theorem e108 {w : PW} {Q : PO → PW → Prop} {x1 : Int} (hs : Sh w) (hx1 : bd x1) (h : (bd ((gI w 1 1) - 1)) ∧ ((0 ≤ x1 ∧ x1 < gI w 1 1) → pC 106 [.ref (1 + 4), iv x1] w (kI fun u3 w2 => Sh w2 ∧ pC 107 [.ref 1, iv x1] w2 (kI fun u5 w4 => Sh w4 ∧ Q (.inl (some (iv (u3 - u5)))) w4))) ∧ (¬ (0 ≤ x1 ∧ x1 < gI w 1 1) → Q (.inr 1) w)) : pC 108 [.ref 0, iv x1] w Q :=
  (pC_in (Nat.le_of_ble_eq_true rfl) rfl Q).mpr (v108_0 hs hx1 h)
/-! 110: PinBarrel.extra(I)I -/
theorem b110 : mB 110 = cX8_extra := rfl
theorem r110 : mR 110 = (some .int) := rfl
theorem d110_0 : decode cX8_extra 0 = .ok (.aload_n 0, 1) := by decide +kernel
theorem d110_1 : decode cX8_extra 1 = .ok (.iload_n 1, 1) := by decide +kernel
theorem d110_2 : decode cX8_extra 2 = .ok (.invokevirtual 189, 3) := by decide +kernel
theorem d110_5 : decode cX8_extra 5 = .ok (.aload_n 0, 1) := by decide +kernel
theorem d110_6 : decode cX8_extra 6 = .ok (.getfield 12, 3) := by decide +kernel
theorem d110_9 : decode cX8_extra 9 = .ok (.iload_n 1, 1) := by decide +kernel
theorem d110_10 : decode cX8_extra 10 = .ok (.invokevirtual 252, 3) := by decide +kernel
theorem d110_13 : decode cX8_extra 13 = .ok (.aload_n 0, 1) := by decide +kernel
theorem d110_14 : decode cX8_extra 14 = .ok (.getfield 12, 3) := by decide +kernel
theorem d110_17 : decode cX8_extra 17 = .ok (.iload_n 1, 1) := by decide +kernel
theorem d110_18 : decode cX8_extra 18 = .ok (.invokevirtual 249, 3) := by decide +kernel
theorem d110_21 : decode cX8_extra 21 = .ok (.isub, 1) := by decide +kernel
theorem d110_22 : decode cX8_extra 22 = .ok (.ireturn, 1) := by decide +kernel
theorem v110_0 {w : PW} {Q : PO → PW → Prop} {x1 : Int} (hs : Sh w) (hx1 : bd x1) (h : (bd ((gI w 1 1) - 1)) ∧ ((0 ≤ x1 ∧ x1 < gI w 1 1) → pC 58 [.ref 1, iv x1] w (kI fun u3 w2 => Sh w2 ∧ pC 107 [.ref 1, iv x1] w2 (kI fun u5 w4 => Sh w4 ∧ Q (.inl (some (iv (u3 - u5)))) w4))) ∧ (¬ (0 ≤ x1 ∧ x1 < gI w 1 1) → Q (.inr 1) w)) : pX 110 0 [some (.ref 0), some (iv x1)] [] w Q :=
  w_f b110 d110_0 rfl rfl rfl <| w_f b110 d110_1 rfl rfl rfl <| w_cc b110 d110_2 rfl (pcl_v (n := 1) rfl rfl rfl (by decide +kernel) (sh_isOb hs (tlt 0 rfl) tbC_0) rfl rfl) rfl <| c77 hs hx1 h.1 (fun c1 => w_f b110 d110_5 rfl rfl rfl <| w_gr b110 d110_6 rfl rfl hs (tlt 0 rfl) tbC_0 rfl (bxr0 (bxc 1 rfl)) <| w_f b110 d110_9 rfl rfl rfl <| w_c b110 d110_10 rfl (pcl_v (n := 1) rfl rfl rfl (by decide +kernel) (sh_isOb hs (bx00 (bxc 1 rfl)) (tb0 (bxc 1 rfl))) rfl rfl) rfl _ (hK_I fun u3 w2 hbu3 hkw2 => w_f b110 d110_13 rfl rfl rfl <| w_gr b110 d110_14 rfl rfl hkw2.1 (tlt 0 rfl) tbC_0 rfl (bxr0 (bxc 1 rfl)) <| w_f b110 d110_17 rfl rfl rfl <| w_c b110 d110_18 rfl (pcl_v (n := 1) rfl rfl rfl (by decide +kernel) (sh_isOb hkw2.1 (bx00 (bxc 1 rfl)) (tb0 (bxc 1 rfl))) rfl rfl) rfl _ (hK_I fun u5 w4 hbu5 hkw4 => w_f b110 d110_21 rfl (pf_isub _ _) rfl <| w_ri b110 d110_22 r110 hkw4.2) hkw2.2) (h.2.1 c1)) (fun c1 => h.2.2 c1)
theorem e110 {w : PW} {Q : PO → PW → Prop} {x1 : Int} (hs : Sh w) (hx1 : bd x1) (h : (bd ((gI w 1 1) - 1)) ∧ ((0 ≤ x1 ∧ x1 < gI w 1 1) → pC 58 [.ref 1, iv x1] w (kI fun u3 w2 => Sh w2 ∧ pC 107 [.ref 1, iv x1] w2 (kI fun u5 w4 => Sh w4 ∧ Q (.inl (some (iv (u3 - u5)))) w4))) ∧ (¬ (0 ≤ x1 ∧ x1 < gI w 1 1) → Q (.inr 1) w)) : pC 110 [.ref 0, iv x1] w Q :=
  (pC_in (Nat.le_of_ble_eq_true rfl) rfl Q).mpr (v110_0 hs hx1 h)
/-! 113: PinBarrel.isClean(I)Z -/
theorem b113 : mB 113 = cX8_isClean := rfl
theorem r113 : mR 113 = (some .boolean) := rfl
theorem d113_0 : decode cX8_isClean 0 = .ok (.aload_n 0, 1) := by decide +kernel
theorem d113_1 : decode cX8_isClean 1 = .ok (.iload_n 1, 1) := by decide +kernel
theorem d113_2 : decode cX8_isClean 2 = .ok (.invokevirtual 189, 3) := by decide +kernel
theorem d113_5 : decode cX8_isClean 5 = .ok (.aload_n 0, 1) := by decide +kernel
theorem d113_6 : decode cX8_isClean 6 = .ok (.getfield 12, 3) := by decide +kernel
theorem d113_9 : decode cX8_isClean 9 = .ok (.iload_n 1, 1) := by decide +kernel
theorem d113_10 : decode cX8_isClean 10 = .ok (.invokevirtual 249, 3) := by decide +kernel
theorem d113_13 : decode cX8_isClean 13 = .ok (.istore_n 2, 1) := by decide +kernel
theorem d113_14 : decode cX8_isClean 14 = .ok (.aload_n 0, 1) := by decide +kernel
theorem d113_15 : decode cX8_isClean 15 = .ok (.getfield 12, 3) := by decide +kernel
theorem d113_18 : decode cX8_isClean 18 = .ok (.getfield 87, 3) := by decide +kernel
theorem d113_21 : decode cX8_isClean 21 = .ok (.iload_n 1, 1) := by decide +kernel
theorem d113_22 : decode cX8_isClean 22 = .ok (.invokevirtual 246, 3) := by decide +kernel
theorem d113_25 : decode cX8_isClean 25 = .ok (.iload_n 2, 1) := by decide +kernel
theorem d113_26 : decode cX8_isClean 26 = .ok (.if_icmp .ne 41, 3) := by decide +kernel
theorem d113_29 : decode cX8_isClean 29 = .ok (.aload_n 0, 1) := by decide +kernel
theorem d113_30 : decode cX8_isClean 30 = .ok (.getfield 12, 3) := by decide +kernel
theorem d113_33 : decode cX8_isClean 33 = .ok (.iload_n 1, 1) := by decide +kernel
theorem d113_34 : decode cX8_isClean 34 = .ok (.invokevirtual 252, 3) := by decide +kernel
theorem d113_37 : decode cX8_isClean 37 = .ok (.iload_n 2, 1) := by decide +kernel
theorem d113_38 : decode cX8_isClean 38 = .ok (.if_icmp .ne 29, 3) := by decide +kernel
theorem d113_41 : decode cX8_isClean 41 = .ok (.aload_n 0, 1) := by decide +kernel
theorem d113_42 : decode cX8_isClean 42 = .ok (.getfield 12, 3) := by decide +kernel
theorem d113_45 : decode cX8_isClean 45 = .ok (.iload_n 1, 1) := by decide +kernel
theorem d113_46 : decode cX8_isClean 46 = .ok (.invokevirtual 220, 3) := by decide +kernel
theorem d113_49 : decode cX8_isClean 49 = .ok (.ifCond .ne 18, 3) := by decide +kernel
theorem d113_52 : decode cX8_isClean 52 = .ok (.aload_n 0, 1) := by decide +kernel
theorem d113_53 : decode cX8_isClean 53 = .ok (.getfield 12, 3) := by decide +kernel
theorem d113_56 : decode cX8_isClean 56 = .ok (.iload_n 1, 1) := by decide +kernel
theorem d113_57 : decode cX8_isClean 57 = .ok (.invokevirtual 255, 3) := by decide +kernel
theorem d113_60 : decode cX8_isClean 60 = .ok (.ifCond .ne 7, 3) := by decide +kernel
theorem d113_63 : decode cX8_isClean 63 = .ok (.iconst 1, 1) := by decide +kernel
theorem d113_64 : decode cX8_isClean 64 = .ok (.goto 4, 3) := by decide +kernel
theorem d113_67 : decode cX8_isClean 67 = .ok (.iconst 0, 1) := by decide +kernel
theorem d113_68 : decode cX8_isClean 68 = .ok (.ireturn, 1) := by decide +kernel
theorem v113_0 {w : PW} {Q : PO → PW → Prop} {x1 : Int} (hs : Sh w) (hx1 : bd x1) (h : (bd ((gI w 1 1) - 1)) ∧ ((0 ≤ x1 ∧ x1 < gI w 1 1) → pC 107 [.ref 1, iv x1] w (kI fun u3 w2 => Sh w2 ∧ pC 106 [.ref (1 + 4), iv x1] w2 (kI fun u5 w4 => Sh w4 ∧ (u5 ≠ u3 → Q (.inl (some (iv 0))) w4) ∧ (u5 = u3 → pC 58 [.ref 1, iv x1] w4 (kI fun u8 w7 => Sh w7 ∧ (u8 ≠ u3 → Q (.inl (some (iv 0))) w7) ∧ (u8 = u3 → pC 92 [.ref 1, iv x1] w7 (kI fun u11 w10 => Sh w10 ∧ (u11 ≠ 0 → Q (.inl (some (iv 0))) w10) ∧ (u11 = 0 → pC 112 [.ref 1, iv x1] w10 (kI fun u14 w13 => Sh w13 ∧ (u14 ≠ 0 → Q (.inl (some (iv 0))) w13) ∧ (u14 = 0 → Q (.inl (some (iv 1))) w13)))))))))) ∧ (¬ (0 ≤ x1 ∧ x1 < gI w 1 1) → Q (.inr 1) w)) : pX 113 0 [some (.ref 0), some (iv x1), none] [] w Q :=
  w_f b113 d113_0 rfl rfl rfl <| w_f b113 d113_1 rfl rfl rfl <| w_cc b113 d113_2 rfl (pcl_v (n := 1) rfl rfl rfl (by decide +kernel) (sh_isOb hs (tlt 0 rfl) tbC_0) rfl rfl) rfl <| c77 hs hx1 h.1 (fun c1 => w_f b113 d113_5 rfl rfl rfl <| w_gr b113 d113_6 rfl rfl hs (tlt 0 rfl) tbC_0 rfl (bxr0 (bxc 1 rfl)) <| w_f b113 d113_9 rfl rfl rfl <| w_c b113 d113_10 rfl (pcl_v (n := 1) rfl rfl rfl (by decide +kernel) (sh_isOb hs (bx00 (bxc 1 rfl)) (tb0 (bxc 1 rfl))) rfl rfl) rfl _ (hK_I fun u3 w2 hbu3 hkw2 => w_f b113 d113_13 rfl rfl rfl <| w_f b113 d113_14 rfl rfl rfl <| w_gr b113 d113_15 rfl rfl hkw2.1 (tlt 0 rfl) tbC_0 rfl (bxr0 (bxc 1 rfl)) <| w_gr b113 d113_18 rfl rfl hkw2.1 (bx00 (bxc 1 rfl)) (tb0 (bxc 1 rfl)) rfl (bxr (bxc 1 rfl) 4 rfl) <| w_f b113 d113_21 rfl rfl rfl <| w_c b113 d113_22 rfl (pcl_v (n := 1) rfl rfl rfl (by decide +kernel) (sh_isOb hkw2.1 (bxk (bxc 1 rfl) 4 rfl) (tb4 (bxc 1 rfl))) rfl rfl) rfl _ (hK_I fun u5 w4 hbu5 hkw4 => w_f b113 d113_25 rfl rfl rfl <| w_icne b113 d113_26 rfl rfl (by decide +kernel) hbu5 hbu3 (fun c6 => w_f b113 d113_67 rfl rfl rfl <| w_rz b113 d113_68 r113 (by decide) (hkw4.2.1 c6)) (fun c6 => w_f b113 d113_29 rfl rfl rfl <| w_gr b113 d113_30 rfl rfl hkw4.1 (tlt 0 rfl) tbC_0 rfl (bxr0 (bxc 1 rfl)) <| w_f b113 d113_33 rfl rfl rfl <| w_c b113 d113_34 rfl (pcl_v (n := 1) rfl rfl rfl (by decide +kernel) (sh_isOb hkw4.1 (bx00 (bxc 1 rfl)) (tb0 (bxc 1 rfl))) rfl rfl) rfl _ (hK_I fun u8 w7 hbu8 hkw7 => w_f b113 d113_37 rfl rfl rfl <| w_icne b113 d113_38 rfl rfl (by decide +kernel) hbu8 hbu3 (fun c9 => w_f b113 d113_67 rfl rfl rfl <| w_rz b113 d113_68 r113 (by decide) (hkw7.2.1 c9)) (fun c9 => w_f b113 d113_41 rfl rfl rfl <| w_gr b113 d113_42 rfl rfl hkw7.1 (tlt 0 rfl) tbC_0 rfl (bxr0 (bxc 1 rfl)) <| w_f b113 d113_45 rfl rfl rfl <| w_c b113 d113_46 rfl (pcl_v (n := 1) rfl rfl rfl (by decide +kernel) (sh_isOb hkw7.1 (bx00 (bxc 1 rfl)) (tb0 (bxc 1 rfl))) rfl rfl) rfl _ (hK_I fun u11 w10 hbu11 hkw10 => w_ifne b113 d113_49 rfl rfl (by decide +kernel) hbu11 (fun c12 => w_f b113 d113_67 rfl rfl rfl <| w_rz b113 d113_68 r113 (by decide) (hkw10.2.1 c12)) (fun c12 => w_f b113 d113_52 rfl rfl rfl <| w_gr b113 d113_53 rfl rfl hkw10.1 (tlt 0 rfl) tbC_0 rfl (bxr0 (bxc 1 rfl)) <| w_f b113 d113_56 rfl rfl rfl <| w_c b113 d113_57 rfl (pcl_v (n := 1) rfl rfl rfl (by decide +kernel) (sh_isOb hkw10.1 (bx00 (bxc 1 rfl)) (tb0 (bxc 1 rfl))) rfl rfl) rfl _ (hK_I fun u14 w13 hbu14 hkw13 => w_ifne b113 d113_60 rfl rfl (by decide +kernel) hbu14 (fun c15 => w_f b113 d113_67 rfl rfl rfl <| w_rz b113 d113_68 r113 (by decide) (hkw13.2.1 c15)) (fun c15 => w_f b113 d113_63 rfl rfl rfl <| w_j b113 d113_64 rfl (by decide +kernel) <| w_rz b113 d113_68 r113 (by decide) (hkw13.2.2 c15))) (hkw10.2.2 c12))) (hkw7.2.2 c9))) (hkw4.2.2 c6))) hkw2.2) (h.2.1 c1)) (fun c1 => h.2.2 c1)
theorem e113 {w : PW} {Q : PO → PW → Prop} {x1 : Int} (hs : Sh w) (hx1 : bd x1) (h : (bd ((gI w 1 1) - 1)) ∧ ((0 ≤ x1 ∧ x1 < gI w 1 1) → pC 107 [.ref 1, iv x1] w (kI fun u3 w2 => Sh w2 ∧ pC 106 [.ref (1 + 4), iv x1] w2 (kI fun u5 w4 => Sh w4 ∧ (u5 ≠ u3 → Q (.inl (some (iv 0))) w4) ∧ (u5 = u3 → pC 58 [.ref 1, iv x1] w4 (kI fun u8 w7 => Sh w7 ∧ (u8 ≠ u3 → Q (.inl (some (iv 0))) w7) ∧ (u8 = u3 → pC 92 [.ref 1, iv x1] w7 (kI fun u11 w10 => Sh w10 ∧ (u11 ≠ 0 → Q (.inl (some (iv 0))) w10) ∧ (u11 = 0 → pC 112 [.ref 1, iv x1] w10 (kI fun u14 w13 => Sh w13 ∧ (u14 ≠ 0 → Q (.inl (some (iv 0))) w13) ∧ (u14 = 0 → Q (.inl (some (iv 1))) w13)))))))))) ∧ (¬ (0 ≤ x1 ∧ x1 < gI w 1 1) → Q (.inr 1) w)) : pC 113 [.ref 0, iv x1] w Q :=
  (pC_in (Nat.le_of_ble_eq_true rfl) rfl Q).mpr (v113_0 hs hx1 h)
def sp93 (m : Row) (x1 : Int) : PO := spU m x1 (rI (sCf m x1.toNat : Nat))
theorem c93 {w : PW} {Q : PO → PW → Prop} {m : Row} {x1 : Int} (hs : Sh w) (hB : BR w 1 m) (hx1 : bd x1) (h : Q (sp93 m x1) w) : pC 93 [.ref 0, iv x1] w Q := by
  have h1 := hB.ok.u
  refine e93 hs hx1 ?_
  rw [hB.u]
  refine ⟨⟨by omega, by omega⟩, fun q1 => ?_, sp_f h⟩
  have := sp_t h q1
  obtain ⟨u, rfl⟩ := nat_of q1.1
  exact c92 hs hB q1.2 (kI_iv (bdk (by have := sCf_bd hB.ok u; omega)) ⟨hs, this⟩)
theorem sNotes_le {m : Row} (h : RowOK m) (x : Int) : sNotes m x ≤ 60 := by
  have h5 := h.n
  have := cnt_le (fun i => decide (rN m i 0 = x)) (m 5).toNat
  unfold sNotes
  omega
theorem sPlayed_le {m : Row} (h : RowOK m) (x : Int) : sPlayed m x ≤ 60 := by
  have h5 := h.n
  have := cnt_le (fun k => decide (rN m k 0 = x) && decide (sPlay m k ≠ -1)) (m 5).toNat
  unfold sPlayed
  omega
def sp108 (m : Row) (x1 : Int) : PO := spU m x1 (rI ((sNotes m x1 : Nat) - (sPlayed m x1 : Nat)))
theorem c108 {w : PW} {Q : PO → PW → Prop} {m : Row} {x1 : Int} (hs : Sh w) (hB : BR w 1 m) (hx1 : bd x1) (h : Q (sp108 m x1) w) : pC 108 [.ref 0, iv x1] w Q := by
  have h1 := hB.ok.u
  have n1 := sNotes_le hB.ok x1
  have n2 := sPlayed_le hB.ok x1
  refine e108 hs hx1 ?_
  rw [hB.u]
  exact ⟨⟨by omega, by omega⟩, fun q1 => c106 (b := 1) hs hB hx1 (kI_iv (bdk (by omega)) ⟨hs, c107 hs hB hx1 (kI_iv (bdk (by omega)) ⟨hs, sp_t h q1⟩)⟩), sp_f h⟩
def sp110 (m : Row) (x1 : Int) : PO := spU m x1 (rI (sPins m x1.toNat - (sPlayed m x1 : Nat)))
theorem c110 {w : PW} {Q : PO → PW → Prop} {m : Row} {x1 : Int} (hs : Sh w) (hB : BR w 1 m) (hx1 : bd x1) (h : Q (sp110 m x1) w) : pC 110 [.ref 0, iv x1] w Q := by
  have h1 := hB.ok.u
  have n1 := sPins_bd hB.ok x1.toNat
  have n2 := sPlayed_le hB.ok x1
  refine e110 hs hx1 ?_
  rw [hB.u]
  refine ⟨⟨by omega, by omega⟩, fun q1 => ?_, sp_f h⟩
  have := sp_t h q1
  obtain ⟨u, rfl⟩ := nat_of q1.1
  exact c58 hs hB q1.2 (kI_iv ⟨by rw [Int.toNat_natCast] at n1; omega, by rw [Int.toNat_natCast] at n1; omega⟩ ⟨hs, c107 hs hB hx1 (kI_iv (bdk (by omega)) ⟨hs, this⟩)⟩)
def sClean (m : Row) (u : Nat) : Prop := sNotes m u = sPlayed m u ∧ sPins m u = (sPlayed m u : Nat) ∧ sCf m u = 0 ∧ ¬ sHas m u
def sp113 (m : Row) (x1 : Int) : PO := spU m x1 (rI (if sNotes m x1 = sPlayed m x1 ∧ sPins m x1.toNat = (sPlayed m x1 : Nat) ∧ sCf m x1.toNat = 0 ∧ ¬ (0 < cnt (sHasT m x1.toNat) (m 4).toNat) then 1 else 0))
theorem c113 {w : PW} {Q : PO → PW → Prop} {m : Row} {x1 : Int} (hs : Sh w) (hB : BR w 1 m) (hx1 : bd x1) (h : Q (sp113 m x1) w) : pC 113 [.ref 0, iv x1] w Q := by
  have h1 := hB.ok.u
  have n1 := sNotes_le hB.ok x1
  have n2 := sPlayed_le hB.ok x1
  have n3 := sPins_bd hB.ok x1.toNat
  have n4 := sCf_bd hB.ok x1.toNat
  refine e113 hs hx1 ?_
  rw [hB.u]
  refine ⟨⟨by omega, by omega⟩, fun q1 => ?_, sp_f h⟩
  have hr := sp_t h q1
  obtain ⟨u, rfl⟩ := nat_of q1.1
  rw [Int.toNat_natCast] at n3 n4 hr
  have no : ¬ (sNotes m (u : Int) = sPlayed m (u : Int) ∧ sPins m u = (sPlayed m (u : Int) : Nat) ∧ sCf m u = 0 ∧ ¬ (0 < cnt (sHasT m u) (m 4).toNat)) → Q (.inl (some (iv 0))) w := fun q => by rw [if_neg q] at hr; exact hr
  refine c107 hs hB hx1 (kI_iv (bdk (by omega)) ⟨hs, c106 (b := 1) hs hB hx1 (kI_iv (bdk (by omega)) ⟨hs, fun q => no (fun z => by omega), fun q => c58 hs hB q1.2 (kI_iv ⟨by omega, by omega⟩ ⟨hs, fun q2 => no (fun z => by omega), fun q2 => c92 hs hB q1.2 (kI_iv (bdk (by omega)) ⟨hs, fun q3 => no (fun z => by omega), fun q3 => c112 hs hB q1.2 (fun q4 => kI_iv bd0 ⟨hs, fun q5 => absurd rfl q5, fun _ => ?_⟩) (fun q4 => kI_iv (by decide) ⟨hs, fun _ => no (fun z => z.2.2.2 q4), fun q5 => absurd q5 (by decide)⟩)⟩)⟩)⟩)⟩)
  rw [if_pos ⟨by omega, q2, by omega, q4⟩] at hr
  exact hr

