/-! PLAYING: the class -/
def rBuzz (m : Row) (t : Nat) : Int := if rT m t 4 ≠ -1 ∧ m 8 - rT m t 4 < sNeed m t then 1 else 0
def rPluck (m : Row) (t : Nat) : Row := fun j => if j = 443 + 4 * ((m 9).toNat % 100) then m 8 else if j = 443 + 4 * ((m 9).toNat % 100) + 1 then (t : Int) else if j = 443 + 4 * ((m 9).toNat % 100) + 2 then rT m t 0 else if j = 443 + 4 * ((m 9).toNat % 100) + 3 then rBuzz m t else if j = 9 then m 9 + 1 else if j = 10 then m 10 + rBuzz m t else if j = 11 + 5 * t + 2 then rT m t 2 + 1 else if j = 11 + 5 * t + 3 then rT m t 3 + rBuzz m t else if j = 11 + 5 * t + 4 then m 8 else m j
theorem rBuzz_bd (m : Row) (t : Nat) : 0 ≤ rBuzz m t ∧ rBuzz m t ≤ 1 := by unfold rBuzz; split <;> omega
section RPL
variable {m : Row} {t : Nat}
theorem rPluck_lo {j : Nat} (h : j < 9) : rPluck m t j = m j := by
  unfold rPluck
  rw [if_neg (by omega), if_neg (by omega), if_neg (by omega), if_neg (by omega), if_neg (by omega), if_neg (by omega), if_neg (by omega), if_neg (by omega), if_neg (by omega)]
theorem rPluck_9 : rPluck m t 9 = m 9 + 1 := by
  unfold rPluck
  rw [if_neg (by omega), if_neg (by omega), if_neg (by omega), if_neg (by omega), if_pos rfl]
theorem rPluck_10 : rPluck m t 10 = m 10 + rBuzz m t := by
  unfold rPluck
  rw [if_neg (by omega), if_neg (by omega), if_neg (by omega), if_neg (by omega), if_neg (by omega), if_pos rfl]
theorem rPluck_T {i k : Nat} (hi : i < 12) (hk : k < 5) (h : i ≠ t ∨ k < 2) : rT (rPluck m t) i k = rT m i k := by
  unfold rT rPluck
  rw [if_neg (by omega), if_neg (by omega), if_neg (by omega), if_neg (by omega), if_neg (by omega), if_neg (by omega), if_neg (by omega), if_neg (by omega), if_neg (by omega)]
theorem rPluck_T2 (ht : t < 12) : rT (rPluck m t) t 2 = rT m t 2 + 1 := by
  show rPluck m t (11 + 5 * t + 2) = _
  unfold rPluck
  rw [if_neg (by omega), if_neg (by omega), if_neg (by omega), if_neg (by omega), if_neg (by omega), if_neg (by omega), if_pos rfl]
theorem rPluck_T3 (ht : t < 12) : rT (rPluck m t) t 3 = rT m t 3 + rBuzz m t := by
  show rPluck m t (11 + 5 * t + 3) = _
  unfold rPluck
  rw [if_neg (by omega), if_neg (by omega), if_neg (by omega), if_neg (by omega), if_neg (by omega), if_neg (by omega), if_neg (by omega), if_pos rfl]
theorem rPluck_T4 (ht : t < 12) : rT (rPluck m t) t 4 = m 8 := by
  show rPluck m t (11 + 5 * t + 4) = _
  unfold rPluck
  rw [if_neg (by omega), if_neg (by omega), if_neg (by omega), if_neg (by omega), if_neg (by omega), if_neg (by omega), if_neg (by omega), if_neg (by omega), if_pos rfl]
theorem rPluck_mid {j : Nat} (ht : t < 12) (h1 : 71 ≤ j) (h2 : j < 443) : rPluck m t j = m j := by
  unfold rPluck
  rw [if_neg (by omega), if_neg (by omega), if_neg (by omega), if_neg (by omega), if_neg (by omega), if_neg (by omega), if_neg (by omega), if_neg (by omega), if_neg (by omega)]
theorem rPluck_N {i k : Nat} (ht : t < 12) (hi : i < 60) (hk : k < 3) : rN (rPluck m t) i k = rN m i k := rPluck_mid ht (by omega) (by omega)
theorem rPluck_P {u s i : Nat} (ht : t < 12) (hu : u < 3) (hs : s < 64) : rPin (rPluck m t) u s i = rPin m u s i := by
  unfold rPin
  rw [rPluck_mid ht (by omega) (by omega)]
theorem rPluck_ok (h : RowOK m) (ht : (t : Int) < m 4) (hr : m 9 ≤ 12 * m 8 + 11) : RowOK (rPluck m t) := by
  have h4 := h.t
  have h9 := h.pp
  have h8 := h.pt
  have h5 := h.n
  have h1 := h.u
  have h0 := h.s
  have hb := rBuzz_bd m t
  have h10 := h.pb
  have t12 : t < 12 := by omega
  unfold RowOK
  rw [rPluck_lo (show 0 < 9 by decide), rPluck_lo (show 1 < 9 by decide), rPluck_lo (show 2 < 9 by decide), rPluck_lo (show 3 < 9 by decide), rPluck_lo (show 4 < 9 by decide), rPluck_lo (show 5 < 9 by decide), rPluck_lo (show 6 < 9 by decide), rPluck_lo (show 7 < 9 by decide), rPluck_lo (show 8 < 9 by decide), rPluck_9, rPluck_10]
  refine ⟨h.s, h.u, h.g, h.v, h.t, h.n, h.pu, h.ps, h.pt, ⟨by omega, by omega⟩, ⟨by omega, by omega⟩, fun i hi => ?_, fun i hi => ?_, fun u s hu hs => ?_⟩
  · obtain ⟨a1, a2, a3, a4, a5⟩ := h.T hi
    rw [rPluck_T (by omega) (by decide) (Or.inr (by decide)), rPluck_T (by omega) (by decide) (Or.inr (by decide))]
    refine ⟨a1, a2, ?_⟩
    by_cases e : i = t
    · subst e
      rw [rPluck_T2 t12, rPluck_T3 t12, rPluck_T4 t12]
      omega
    · rw [rPluck_T (by omega) (by decide) (Or.inl e), rPluck_T (by omega) (by decide) (Or.inl e), rPluck_T (by omega) (by decide) (Or.inl e)]
      omega
  · rw [rPluck_N t12 (by omega) (by decide), rPluck_N t12 (by omega) (by decide), rPluck_N t12 (by omega) (by decide)]
    exact h.N hi
  · have := h.P hu hs
    rw [rPluck_mid t12 (by omega) (by omega)]
    exact ⟨this.1, fun i hi q => this.2 i hi (by rw [rPluck_P t12 (by omega) (by omega)] at q; exact q)⟩
end RPL
theorem rTr_eq {m m' : Row} (h : RowOK m) (h0 : m' 0 = m 0) (h1 : m' 1 = m 1) (h4 : m' 4 = m 4) (hp : ∀ u s t, u < 3 → s < 64 → t < 12 → rPin m' u s t = rPin m u s t) (j s : Nat) : rTr m' j s = rTr m j s := by
  have a0 := h.s
  have a1 := h.u
  have a4 := h.t
  unfold rTr
  rw [h0, h1, h4]
  by_cases q : j < (m 1).toNat * (m 4).toNat
  · by_cases q2 : s < (m 0).toNat
    · have e1 : j % (m 1).toNat < (m 1).toNat := Nat.mod_lt _ (by omega)
      have e2 : j / (m 1).toNat < (m 4).toNat := Nat.div_lt_of_lt_mul q
      rw [hp _ _ _ (by omega) (by omega) (by omega)]
    · rw [decide_eq_false q2, Bool.false_and, Bool.false_and]
  · rw [decide_eq_false q, Bool.false_and, Bool.false_and]
/-! 45: PinBarrel$Play.restLeft(II)I -/
theorem b45 : mB 45 = cX3_restLeft := rfl
theorem r45 : mR 45 = (some .int) := rfl
theorem p45 (a b : Nat) : phi 45 a ≤ phi 45 b := Nat.le_refl 0
theorem d45_0 : decode cX3_restLeft 0 = .ok (.aload_n 0, 1) := by decide +kernel
theorem d45_1 : decode cX3_restLeft 1 = .ok (.getfield 34, 3) := by decide +kernel
theorem d45_4 : decode cX3_restLeft 4 = .ok (.iload_n 1, 1) := by decide +kernel
theorem d45_5 : decode cX3_restLeft 5 = .ok (.iaload, 1) := by decide +kernel
theorem d45_6 : decode cX3_restLeft 6 = .ok (.istore_n 3, 1) := by decide +kernel
theorem d45_7 : decode cX3_restLeft 7 = .ok (.iload_n 3, 1) := by decide +kernel
theorem d45_8 : decode cX3_restLeft 8 = .ok (.iconst (-1), 1) := by decide +kernel
theorem d45_9 : decode cX3_restLeft 9 = .ok (.if_icmp .ne 7, 3) := by decide +kernel
theorem d45_12 : decode cX3_restLeft 12 = .ok (.iconst 0, 1) := by decide +kernel
theorem d45_13 : decode cX3_restLeft 13 = .ok (.goto 15, 3) := by decide +kernel
theorem d45_16 : decode cX3_restLeft 16 = .ok (.iconst 0, 1) := by decide +kernel
theorem d45_17 : decode cX3_restLeft 17 = .ok (.iload_n 3, 1) := by decide +kernel
theorem d45_18 : decode cX3_restLeft 18 = .ok (.iload_n 2, 1) := by decide +kernel
theorem d45_19 : decode cX3_restLeft 19 = .ok (.iadd, 1) := by decide +kernel
theorem d45_20 : decode cX3_restLeft 20 = .ok (.aload_n 0, 1) := by decide +kernel
theorem d45_21 : decode cX3_restLeft 21 = .ok (.getfield 18, 3) := by decide +kernel
theorem d45_24 : decode cX3_restLeft 24 = .ok (.isub, 1) := by decide +kernel
theorem d45_25 : decode cX3_restLeft 25 = .ok (.invokestatic 56, 3) := by decide +kernel
theorem d45_28 : decode cX3_restLeft 28 = .ok (.ireturn, 1) := by decide +kernel
theorem v45_0 {w : PW} {Q : PO → PW → Prop} {b : Nat} {x1 : Int} {x2 : Int} (hs : Sh w) (hb : bx b) (hx1 : bd x1) (hx2 : bd x2) (h : (0 ≤ x1 ∧ x1 < 12) ∧ ((gI w (b + 11) x1.toNat) ≠ ((-1)) → (bd (((gI w (b + 11) x1.toNat) + x2) - (gI w (b + 8) 2))) ∧ Q (.inl (some (iv (max 0 (((gI w (b + 11) x1.toNat) + x2) - (gI w (b + 8) 2)))))) w) ∧ ((gI w (b + 11) x1.toNat) = ((-1)) → Q (.inl (some (iv 0))) w)) : pX 45 0 [some (.ref (b + 8)), some (iv x1), some (iv x2), none] [] w Q :=
  w_f b45 d45_0 rfl rfl rfl <| w_gr b45 d45_1 rfl rfl hs (bxk hb 8 rfl) (tb8 hb) rfl (bxr hb 11 rfl) <| w_f b45 d45_4 rfl rfl rfl <| w_ial b45 d45_5 rfl hs (bxk hb 11 rfl) (tb11 hb) (bdix (n := 12) h.1 rfl) h.1 <| w_f b45 d45_6 rfl rfl rfl <| w_f b45 d45_7 rfl rfl rfl <| w_f b45 d45_8 rfl rfl rfl <| w_icne b45 d45_9 rfl rfl (p45 _ _) (bd_gI _ _ _) ⟨by decide, by decide⟩ (fun c1 => w_f b45 d45_16 rfl rfl rfl <| w_f b45 d45_17 rfl rfl rfl <| w_f b45 d45_18 rfl rfl rfl <| w_f b45 d45_19 rfl (pf_iadd (gI w (b + 11) x1.toNat) x2) rfl <| w_f b45 d45_20 rfl rfl rfl <| w_gi b45 d45_21 rfl rfl hs (bxk hb 8 rfl) (tb8 hb) rfl <| w_f b45 d45_24 rfl (pf_isub ((gI w (b + 11) x1.toNat) + x2) (gI w (b + 8) 2)) rfl <| w_max b45 d45_25 rfl rfl rfl ⟨by decide, by decide⟩ (h.2.1 c1).1 <| w_ri b45 d45_28 r45 (h.2.1 c1).2) (fun c1 => w_f b45 d45_12 rfl rfl rfl <| w_j b45 d45_13 rfl (p45 _ _) <| w_ri b45 d45_28 r45 (h.2.2 c1))
theorem e45 {w : PW} {Q : PO → PW → Prop} {b : Nat} {x1 : Int} {x2 : Int} (hs : Sh w) (hb : bx b) (hx1 : bd x1) (hx2 : bd x2) (h : (0 ≤ x1 ∧ x1 < 12) ∧ ((gI w (b + 11) x1.toNat) ≠ ((-1)) → (bd (((gI w (b + 11) x1.toNat) + x2) - (gI w (b + 8) 2))) ∧ Q (.inl (some (iv (max 0 (((gI w (b + 11) x1.toNat) + x2) - (gI w (b + 8) 2)))))) w) ∧ ((gI w (b + 11) x1.toNat) = ((-1)) → Q (.inl (some (iv 0))) w)) : pC 45 [.ref (b + 8), iv x1, iv x2] w Q :=
  (pC_in (Nat.le_of_ble_eq_true rfl) rfl Q).mpr (v45_0 hs hb hx1 hx2 h)
/-! 46: PinBarrel$Play.pluck(III)V -/
theorem b46 : mB 46 = cX3_pluck := rfl
theorem r46 : mR 46 = none := rfl
theorem p46 (a b : Nat) : phi 46 a ≤ phi 46 b := Nat.le_refl 0
theorem d46_0 : decode cX3_pluck 0 = .ok (.aload_n 0, 1) := by decide +kernel
theorem d46_1 : decode cX3_pluck 1 = .ok (.iload_n 1, 1) := by decide +kernel
theorem d46_2 : decode cX3_pluck 2 = .ok (.iload_n 3, 1) := by decide +kernel
theorem d46_3 : decode cX3_pluck 3 = .ok (.invokevirtual 62, 3) := by decide +kernel
theorem d46_6 : decode cX3_pluck 6 = .ok (.ifCond .le 7, 3) := by decide +kernel
theorem d46_9 : decode cX3_pluck 9 = .ok (.iconst 1, 1) := by decide +kernel
theorem d46_10 : decode cX3_pluck 10 = .ok (.goto 4, 3) := by decide +kernel
theorem d46_13 : decode cX3_pluck 13 = .ok (.iconst 0, 1) := by decide +kernel
theorem d46_14 : decode cX3_pluck 14 = .ok (.istore 4, 2) := by decide +kernel
theorem d46_16 : decode cX3_pluck 16 = .ok (.aload_n 0, 1) := by decide +kernel
theorem d46_17 : decode cX3_pluck 17 = .ok (.getfield 21, 3) := by decide +kernel
theorem d46_20 : decode cX3_pluck 20 = .ok (.bipush 100, 2) := by decide +kernel
theorem d46_22 : decode cX3_pluck 22 = .ok (.irem, 1) := by decide +kernel
theorem d46_23 : decode cX3_pluck 23 = .ok (.iconst 4, 1) := by decide +kernel
theorem d46_24 : decode cX3_pluck 24 = .ok (.imul, 1) := by decide +kernel
theorem d46_25 : decode cX3_pluck 25 = .ok (.istore 5, 2) := by decide +kernel
theorem d46_27 : decode cX3_pluck 27 = .ok (.aload_n 0, 1) := by decide +kernel
theorem d46_28 : decode cX3_pluck 28 = .ok (.getfield 37, 3) := by decide +kernel
theorem d46_31 : decode cX3_pluck 31 = .ok (.iload 5, 2) := by decide +kernel
theorem d46_33 : decode cX3_pluck 33 = .ok (.aload_n 0, 1) := by decide +kernel
theorem d46_34 : decode cX3_pluck 34 = .ok (.getfield 18, 3) := by decide +kernel
theorem d46_37 : decode cX3_pluck 37 = .ok (.iastore, 1) := by decide +kernel
theorem d46_38 : decode cX3_pluck 38 = .ok (.aload_n 0, 1) := by decide +kernel
theorem d46_39 : decode cX3_pluck 39 = .ok (.getfield 37, 3) := by decide +kernel
theorem d46_42 : decode cX3_pluck 42 = .ok (.iload 5, 2) := by decide +kernel
theorem d46_44 : decode cX3_pluck 44 = .ok (.iconst 1, 1) := by decide +kernel
theorem d46_45 : decode cX3_pluck 45 = .ok (.iadd, 1) := by decide +kernel
theorem d46_46 : decode cX3_pluck 46 = .ok (.iload_n 1, 1) := by decide +kernel
theorem d46_47 : decode cX3_pluck 47 = .ok (.iastore, 1) := by decide +kernel
theorem d46_48 : decode cX3_pluck 48 = .ok (.aload_n 0, 1) := by decide +kernel
theorem d46_49 : decode cX3_pluck 49 = .ok (.getfield 37, 3) := by decide +kernel
theorem d46_52 : decode cX3_pluck 52 = .ok (.iload 5, 2) := by decide +kernel
theorem d46_54 : decode cX3_pluck 54 = .ok (.iconst 2, 1) := by decide +kernel
theorem d46_55 : decode cX3_pluck 55 = .ok (.iadd, 1) := by decide +kernel
theorem d46_56 : decode cX3_pluck 56 = .ok (.iload_n 2, 1) := by decide +kernel
theorem d46_57 : decode cX3_pluck 57 = .ok (.iastore, 1) := by decide +kernel
theorem d46_58 : decode cX3_pluck 58 = .ok (.aload_n 0, 1) := by decide +kernel
theorem d46_59 : decode cX3_pluck 59 = .ok (.getfield 37, 3) := by decide +kernel
theorem d46_62 : decode cX3_pluck 62 = .ok (.iload 5, 2) := by decide +kernel
theorem d46_64 : decode cX3_pluck 64 = .ok (.iconst 3, 1) := by decide +kernel
theorem d46_65 : decode cX3_pluck 65 = .ok (.iadd, 1) := by decide +kernel
theorem d46_66 : decode cX3_pluck 66 = .ok (.iload 4, 2) := by decide +kernel
theorem d46_68 : decode cX3_pluck 68 = .ok (.iastore, 1) := by decide +kernel
theorem d46_69 : decode cX3_pluck 69 = .ok (.aload_n 0, 1) := by decide +kernel
theorem d46_70 : decode cX3_pluck 70 = .ok (.dup, 1) := by decide +kernel
theorem d46_71 : decode cX3_pluck 71 = .ok (.getfield 21, 3) := by decide +kernel
theorem d46_74 : decode cX3_pluck 74 = .ok (.iconst 1, 1) := by decide +kernel
theorem d46_75 : decode cX3_pluck 75 = .ok (.iadd, 1) := by decide +kernel
theorem d46_76 : decode cX3_pluck 76 = .ok (.putfield 21, 3) := by decide +kernel
theorem d46_79 : decode cX3_pluck 79 = .ok (.aload_n 0, 1) := by decide +kernel
theorem d46_80 : decode cX3_pluck 80 = .ok (.dup, 1) := by decide +kernel
theorem d46_81 : decode cX3_pluck 81 = .ok (.getfield 24, 3) := by decide +kernel
theorem d46_84 : decode cX3_pluck 84 = .ok (.iload 4, 2) := by decide +kernel
theorem d46_86 : decode cX3_pluck 86 = .ok (.iadd, 1) := by decide +kernel
theorem d46_87 : decode cX3_pluck 87 = .ok (.putfield 24, 3) := by decide +kernel
theorem d46_90 : decode cX3_pluck 90 = .ok (.aload_n 0, 1) := by decide +kernel
theorem d46_91 : decode cX3_pluck 91 = .ok (.getfield 27, 3) := by decide +kernel
theorem d46_94 : decode cX3_pluck 94 = .ok (.iload_n 1, 1) := by decide +kernel
theorem d46_95 : decode cX3_pluck 95 = .ok (.dup2, 1) := by decide +kernel
theorem d46_96 : decode cX3_pluck 96 = .ok (.iaload, 1) := by decide +kernel
theorem d46_97 : decode cX3_pluck 97 = .ok (.iconst 1, 1) := by decide +kernel
theorem d46_98 : decode cX3_pluck 98 = .ok (.iadd, 1) := by decide +kernel
theorem d46_99 : decode cX3_pluck 99 = .ok (.iastore, 1) := by decide +kernel
theorem d46_100 : decode cX3_pluck 100 = .ok (.aload_n 0, 1) := by decide +kernel
theorem d46_101 : decode cX3_pluck 101 = .ok (.getfield 31, 3) := by decide +kernel
theorem d46_104 : decode cX3_pluck 104 = .ok (.iload_n 1, 1) := by decide +kernel
theorem d46_105 : decode cX3_pluck 105 = .ok (.dup2, 1) := by decide +kernel
theorem d46_106 : decode cX3_pluck 106 = .ok (.iaload, 1) := by decide +kernel
theorem d46_107 : decode cX3_pluck 107 = .ok (.iload 4, 2) := by decide +kernel
theorem d46_109 : decode cX3_pluck 109 = .ok (.iadd, 1) := by decide +kernel
theorem d46_110 : decode cX3_pluck 110 = .ok (.iastore, 1) := by decide +kernel
theorem d46_111 : decode cX3_pluck 111 = .ok (.aload_n 0, 1) := by decide +kernel
theorem d46_112 : decode cX3_pluck 112 = .ok (.getfield 34, 3) := by decide +kernel
theorem d46_115 : decode cX3_pluck 115 = .ok (.iload_n 1, 1) := by decide +kernel
theorem d46_116 : decode cX3_pluck 116 = .ok (.aload_n 0, 1) := by decide +kernel
theorem d46_117 : decode cX3_pluck 117 = .ok (.getfield 18, 3) := by decide +kernel
theorem d46_120 : decode cX3_pluck 120 = .ok (.iastore, 1) := by decide +kernel
theorem d46_121 : decode cX3_pluck 121 = .ok (.return_, 1) := by decide +kernel
theorem v46_0 {w : PW} {Q : PO → PW → Prop} {b : Nat} {x1 : Int} {x2 : Int} {x3 : Int} (hs : Sh w) (hb : bx b) (hx1 : bd x1) (hx2 : bd x2) (hx3 : bd x3) (h : pC 45 [.ref (b + 8), iv x1, iv x3] w (kI fun u2 w1 => Sh w1 ∧ (u2 ≤ 0 → (0 ≤ (((gI w1 (b + 8) 3).tmod 100) * 4) ∧ (((gI w1 (b + 8) 3).tmod 100) * 4) < 400) ∧ ∀ w4 : PW, w4 = sI w1 (b + 12) (((gI w1 (b + 8) 3).tmod 100) * 4).toNat (gI w1 (b + 8) 2) → (0 ≤ ((((gI w1 (b + 8) 3).tmod 100) * 4) + 1) ∧ ((((gI w1 (b + 8) 3).tmod 100) * 4) + 1) < 400) ∧ ∀ w5 : PW, w5 = sI w4 (b + 12) ((((gI w1 (b + 8) 3).tmod 100) * 4) + 1).toNat x1 → (0 ≤ ((((gI w1 (b + 8) 3).tmod 100) * 4) + 2) ∧ ((((gI w1 (b + 8) 3).tmod 100) * 4) + 2) < 400) ∧ ∀ w6 : PW, w6 = sI w5 (b + 12) ((((gI w1 (b + 8) 3).tmod 100) * 4) + 2).toNat x2 → (0 ≤ ((((gI w1 (b + 8) 3).tmod 100) * 4) + 3) ∧ ((((gI w1 (b + 8) 3).tmod 100) * 4) + 3) < 400) ∧ ∀ w7 : PW, w7 = sI w6 (b + 12) ((((gI w1 (b + 8) 3).tmod 100) * 4) + 3).toNat 0 → ∀ w8 : PW, w8 = sI w7 (b + 8) 3 ((gI w7 (b + 8) 3) + 1) → ∀ w9 : PW, w9 = sI w8 (b + 8) 4 ((gI w8 (b + 8) 4) + 0) → (0 ≤ x1 ∧ x1 < 12) ∧ (0 ≤ x1 ∧ x1 < 12) ∧ ∀ w10 : PW, w10 = sI w9 (b + 9) x1.toNat ((gI w9 (b + 9) x1.toNat) + 1) → (0 ≤ x1 ∧ x1 < 12) ∧ (0 ≤ x1 ∧ x1 < 12) ∧ ∀ w11 : PW, w11 = sI w10 (b + 10) x1.toNat ((gI w10 (b + 10) x1.toNat) + 0) → (0 ≤ x1 ∧ x1 < 12) ∧ ∀ w12 : PW, w12 = sI w11 (b + 11) x1.toNat (gI w11 (b + 8) 2) → Q (.inl none) w12) ∧ (0 < u2 → (0 ≤ (((gI w1 (b + 8) 3).tmod 100) * 4) ∧ (((gI w1 (b + 8) 3).tmod 100) * 4) < 400) ∧ ∀ w13 : PW, w13 = sI w1 (b + 12) (((gI w1 (b + 8) 3).tmod 100) * 4).toNat (gI w1 (b + 8) 2) → (0 ≤ ((((gI w1 (b + 8) 3).tmod 100) * 4) + 1) ∧ ((((gI w1 (b + 8) 3).tmod 100) * 4) + 1) < 400) ∧ ∀ w14 : PW, w14 = sI w13 (b + 12) ((((gI w1 (b + 8) 3).tmod 100) * 4) + 1).toNat x1 → (0 ≤ ((((gI w1 (b + 8) 3).tmod 100) * 4) + 2) ∧ ((((gI w1 (b + 8) 3).tmod 100) * 4) + 2) < 400) ∧ ∀ w15 : PW, w15 = sI w14 (b + 12) ((((gI w1 (b + 8) 3).tmod 100) * 4) + 2).toNat x2 → (0 ≤ ((((gI w1 (b + 8) 3).tmod 100) * 4) + 3) ∧ ((((gI w1 (b + 8) 3).tmod 100) * 4) + 3) < 400) ∧ ∀ w16 : PW, w16 = sI w15 (b + 12) ((((gI w1 (b + 8) 3).tmod 100) * 4) + 3).toNat 1 → ∀ w17 : PW, w17 = sI w16 (b + 8) 3 ((gI w16 (b + 8) 3) + 1) → ∀ w18 : PW, w18 = sI w17 (b + 8) 4 ((gI w17 (b + 8) 4) + 1) → (0 ≤ x1 ∧ x1 < 12) ∧ (0 ≤ x1 ∧ x1 < 12) ∧ ∀ w19 : PW, w19 = sI w18 (b + 9) x1.toNat ((gI w18 (b + 9) x1.toNat) + 1) → (0 ≤ x1 ∧ x1 < 12) ∧ (0 ≤ x1 ∧ x1 < 12) ∧ ∀ w20 : PW, w20 = sI w19 (b + 10) x1.toNat ((gI w19 (b + 10) x1.toNat) + 1) → (0 ≤ x1 ∧ x1 < 12) ∧ ∀ w21 : PW, w21 = sI w20 (b + 11) x1.toNat (gI w20 (b + 8) 2) → Q (.inl none) w21))) : pX 46 0 [some (.ref (b + 8)), some (iv x1), some (iv x2), some (iv x3), none, none] [] w Q :=
  w_f b46 d46_0 rfl rfl rfl <| w_f b46 d46_1 rfl rfl rfl <| w_f b46 d46_2 rfl rfl rfl <| w_c b46 d46_3 rfl (pcl_v (n := 2) rfl rfl rfl (by decide +kernel) (sh_isOb hs (bxk hb 8 rfl) (tb8 hb)) rfl rfl) rfl _ (hK_I fun u2 w1 hbu2 hkw1 => w_ifle b46 d46_6 rfl rfl (p46 _ _) hbu2 (fun c3 => w_f b46 d46_13 rfl rfl rfl <| w_f b46 d46_14 rfl rfl rfl <| w_f b46 d46_16 rfl rfl rfl <| w_gi b46 d46_17 rfl rfl hkw1.1 (bxk hb 8 rfl) (tb8 hb) rfl <| w_f b46 d46_20 rfl rfl rfl <| w_f b46 d46_22 rfl (pf_irem (bd_gI _ _ _) ⟨by decide, by decide⟩) rfl <| w_f b46 d46_23 rfl rfl rfl <| w_f b46 d46_24 rfl (pf_imul _ 4) rfl <| w_f b46 d46_25 rfl rfl rfl <| w_f b46 d46_27 rfl rfl rfl <| w_gr b46 d46_28 rfl rfl hkw1.1 (bxk hb 8 rfl) (tb8 hb) rfl (bxr hb 12 rfl) <| w_f b46 d46_31 rfl rfl rfl <| w_f b46 d46_33 rfl rfl rfl <| w_gi b46 d46_34 rfl rfl hkw1.1 (bxk hb 8 rfl) (tb8 hb) rfl <| w_ias b46 d46_37 rfl hkw1.1 (bxk hb 12 rfl) (tb12 hb) (bdix (n := 400) (hkw1.2.1 c3).1 rfl) (hkw1.2.1 c3).1 <| w_f b46 d46_38 rfl rfl rfl <| w_gr b46 d46_39 rfl rfl (Sh_sI hkw1.1 (slt_a (tb12 hb))) (bxk hb 8 rfl) (tb8 hb) rfl (bxr hb 12 rfl) <| w_f b46 d46_42 rfl rfl rfl <| w_f b46 d46_44 rfl rfl rfl <| w_f b46 d46_45 rfl (pf_iadd _ 1) rfl <| w_f b46 d46_46 rfl rfl rfl <| w_ias b46 d46_47 rfl (Sh_sI hkw1.1 (slt_a (tb12 hb))) (bxk hb 12 rfl) (tb12 hb) (bdix (n := 400) ((hkw1.2.1 c3).2 _ rfl).1 rfl) ((hkw1.2.1 c3).2 _ rfl).1 <| w_f b46 d46_48 rfl rfl rfl <| w_gr b46 d46_49 rfl rfl (Sh_sI (Sh_sI hkw1.1 (slt_a (tb12 hb))) (slt_a (tb12 hb))) (bxk hb 8 rfl) (tb8 hb) rfl (bxr hb 12 rfl) <| w_f b46 d46_52 rfl rfl rfl <| w_f b46 d46_54 rfl rfl rfl <| w_f b46 d46_55 rfl (pf_iadd _ 2) rfl <| w_f b46 d46_56 rfl rfl rfl <| w_ias b46 d46_57 rfl (Sh_sI (Sh_sI hkw1.1 (slt_a (tb12 hb))) (slt_a (tb12 hb))) (bxk hb 12 rfl) (tb12 hb) (bdix (n := 400) (((hkw1.2.1 c3).2 _ rfl).2 _ rfl).1 rfl) (((hkw1.2.1 c3).2 _ rfl).2 _ rfl).1 <| w_f b46 d46_58 rfl rfl rfl <| w_gr b46 d46_59 rfl rfl (Sh_sI (Sh_sI (Sh_sI hkw1.1 (slt_a (tb12 hb))) (slt_a (tb12 hb))) (slt_a (tb12 hb))) (bxk hb 8 rfl) (tb8 hb) rfl (bxr hb 12 rfl) <| w_f b46 d46_62 rfl rfl rfl <| w_f b46 d46_64 rfl rfl rfl <| w_f b46 d46_65 rfl (pf_iadd _ 3) rfl <| w_f b46 d46_66 rfl rfl rfl <| w_ias b46 d46_68 rfl (Sh_sI (Sh_sI (Sh_sI hkw1.1 (slt_a (tb12 hb))) (slt_a (tb12 hb))) (slt_a (tb12 hb))) (bxk hb 12 rfl) (tb12 hb) (bdix (n := 400) ((((hkw1.2.1 c3).2 _ rfl).2 _ rfl).2 _ rfl).1 rfl) ((((hkw1.2.1 c3).2 _ rfl).2 _ rfl).2 _ rfl).1 <| w_f b46 d46_69 rfl rfl rfl <| w_f b46 d46_70 rfl rfl rfl <| w_gi b46 d46_71 rfl rfl (Sh_sI (Sh_sI (Sh_sI (Sh_sI hkw1.1 (slt_a (tb12 hb))) (slt_a (tb12 hb))) (slt_a (tb12 hb))) (slt_a (tb12 hb))) (bxk hb 8 rfl) (tb8 hb) rfl <| w_f b46 d46_74 rfl rfl rfl <| w_f b46 d46_75 rfl (pf_iadd _ 1) rfl <| w_pi b46 d46_76 rfl rfl (Sh_sI (Sh_sI (Sh_sI (Sh_sI hkw1.1 (slt_a (tb12 hb))) (slt_a (tb12 hb))) (slt_a (tb12 hb))) (slt_a (tb12 hb))) (bxk hb 8 rfl) (tb8 hb) rfl rfl rfl <| w_f b46 d46_79 rfl rfl rfl <| w_f b46 d46_80 rfl rfl rfl <| w_gi b46 d46_81 rfl rfl (Sh_sI (Sh_sI (Sh_sI (Sh_sI (Sh_sI hkw1.1 (slt_a (tb12 hb))) (slt_a (tb12 hb))) (slt_a (tb12 hb))) (slt_a (tb12 hb))) (slt_o (tb8 hb) rfl)) (bxk hb 8 rfl) (tb8 hb) rfl <| w_f b46 d46_84 rfl rfl rfl <| w_f b46 d46_86 rfl (pf_iadd _ 0) rfl <| w_pi b46 d46_87 rfl rfl (Sh_sI (Sh_sI (Sh_sI (Sh_sI (Sh_sI hkw1.1 (slt_a (tb12 hb))) (slt_a (tb12 hb))) (slt_a (tb12 hb))) (slt_a (tb12 hb))) (slt_o (tb8 hb) rfl)) (bxk hb 8 rfl) (tb8 hb) rfl rfl rfl <| w_f b46 d46_90 rfl rfl rfl <| w_gr b46 d46_91 rfl rfl (Sh_sI (Sh_sI (Sh_sI (Sh_sI (Sh_sI (Sh_sI hkw1.1 (slt_a (tb12 hb))) (slt_a (tb12 hb))) (slt_a (tb12 hb))) (slt_a (tb12 hb))) (slt_o (tb8 hb) rfl)) (slt_o (tb8 hb) rfl)) (bxk hb 8 rfl) (tb8 hb) rfl (bxr hb 9 rfl) <| w_f b46 d46_94 rfl rfl rfl <| w_f b46 d46_95 rfl rfl rfl <| w_ial b46 d46_96 rfl (Sh_sI (Sh_sI (Sh_sI (Sh_sI (Sh_sI (Sh_sI hkw1.1 (slt_a (tb12 hb))) (slt_a (tb12 hb))) (slt_a (tb12 hb))) (slt_a (tb12 hb))) (slt_o (tb8 hb) rfl)) (slt_o (tb8 hb) rfl)) (bxk hb 9 rfl) (tb9 hb) (bdix (n := 12) (((((((hkw1.2.1 c3).2 _ rfl).2 _ rfl).2 _ rfl).2 _ rfl) _ rfl) _ rfl).1 rfl) (((((((hkw1.2.1 c3).2 _ rfl).2 _ rfl).2 _ rfl).2 _ rfl) _ rfl) _ rfl).1 <| w_f b46 d46_97 rfl rfl rfl <| w_f b46 d46_98 rfl (pf_iadd _ 1) rfl <| w_ias b46 d46_99 rfl (Sh_sI (Sh_sI (Sh_sI (Sh_sI (Sh_sI (Sh_sI hkw1.1 (slt_a (tb12 hb))) (slt_a (tb12 hb))) (slt_a (tb12 hb))) (slt_a (tb12 hb))) (slt_o (tb8 hb) rfl)) (slt_o (tb8 hb) rfl)) (bxk hb 9 rfl) (tb9 hb) (bdix (n := 12) (((((((hkw1.2.1 c3).2 _ rfl).2 _ rfl).2 _ rfl).2 _ rfl) _ rfl) _ rfl).2.1 rfl) (((((((hkw1.2.1 c3).2 _ rfl).2 _ rfl).2 _ rfl).2 _ rfl) _ rfl) _ rfl).2.1 <| w_f b46 d46_100 rfl rfl rfl <| w_gr b46 d46_101 rfl rfl (Sh_sI (Sh_sI (Sh_sI (Sh_sI (Sh_sI (Sh_sI (Sh_sI hkw1.1 (slt_a (tb12 hb))) (slt_a (tb12 hb))) (slt_a (tb12 hb))) (slt_a (tb12 hb))) (slt_o (tb8 hb) rfl)) (slt_o (tb8 hb) rfl)) (slt_a (tb9 hb))) (bxk hb 8 rfl) (tb8 hb) rfl (bxr hb 10 rfl) <| w_f b46 d46_104 rfl rfl rfl <| w_f b46 d46_105 rfl rfl rfl <| w_ial b46 d46_106 rfl (Sh_sI (Sh_sI (Sh_sI (Sh_sI (Sh_sI (Sh_sI (Sh_sI hkw1.1 (slt_a (tb12 hb))) (slt_a (tb12 hb))) (slt_a (tb12 hb))) (slt_a (tb12 hb))) (slt_o (tb8 hb) rfl)) (slt_o (tb8 hb) rfl)) (slt_a (tb9 hb))) (bxk hb 10 rfl) (tb10 hb) (bdix (n := 12) ((((((((hkw1.2.1 c3).2 _ rfl).2 _ rfl).2 _ rfl).2 _ rfl) _ rfl) _ rfl).2.2 _ rfl).1 rfl) ((((((((hkw1.2.1 c3).2 _ rfl).2 _ rfl).2 _ rfl).2 _ rfl) _ rfl) _ rfl).2.2 _ rfl).1 <| w_f b46 d46_107 rfl rfl rfl <| w_f b46 d46_109 rfl (pf_iadd _ 0) rfl <| w_ias b46 d46_110 rfl (Sh_sI (Sh_sI (Sh_sI (Sh_sI (Sh_sI (Sh_sI (Sh_sI hkw1.1 (slt_a (tb12 hb))) (slt_a (tb12 hb))) (slt_a (tb12 hb))) (slt_a (tb12 hb))) (slt_o (tb8 hb) rfl)) (slt_o (tb8 hb) rfl)) (slt_a (tb9 hb))) (bxk hb 10 rfl) (tb10 hb) (bdix (n := 12) ((((((((hkw1.2.1 c3).2 _ rfl).2 _ rfl).2 _ rfl).2 _ rfl) _ rfl) _ rfl).2.2 _ rfl).2.1 rfl) ((((((((hkw1.2.1 c3).2 _ rfl).2 _ rfl).2 _ rfl).2 _ rfl) _ rfl) _ rfl).2.2 _ rfl).2.1 <| w_f b46 d46_111 rfl rfl rfl <| w_gr b46 d46_112 rfl rfl (Sh_sI (Sh_sI (Sh_sI (Sh_sI (Sh_sI (Sh_sI (Sh_sI (Sh_sI hkw1.1 (slt_a (tb12 hb))) (slt_a (tb12 hb))) (slt_a (tb12 hb))) (slt_a (tb12 hb))) (slt_o (tb8 hb) rfl)) (slt_o (tb8 hb) rfl)) (slt_a (tb9 hb))) (slt_a (tb10 hb))) (bxk hb 8 rfl) (tb8 hb) rfl (bxr hb 11 rfl) <| w_f b46 d46_115 rfl rfl rfl <| w_f b46 d46_116 rfl rfl rfl <| w_gi b46 d46_117 rfl rfl (Sh_sI (Sh_sI (Sh_sI (Sh_sI (Sh_sI (Sh_sI (Sh_sI (Sh_sI hkw1.1 (slt_a (tb12 hb))) (slt_a (tb12 hb))) (slt_a (tb12 hb))) (slt_a (tb12 hb))) (slt_o (tb8 hb) rfl)) (slt_o (tb8 hb) rfl)) (slt_a (tb9 hb))) (slt_a (tb10 hb))) (bxk hb 8 rfl) (tb8 hb) rfl <| w_ias b46 d46_120 rfl (Sh_sI (Sh_sI (Sh_sI (Sh_sI (Sh_sI (Sh_sI (Sh_sI (Sh_sI hkw1.1 (slt_a (tb12 hb))) (slt_a (tb12 hb))) (slt_a (tb12 hb))) (slt_a (tb12 hb))) (slt_o (tb8 hb) rfl)) (slt_o (tb8 hb) rfl)) (slt_a (tb9 hb))) (slt_a (tb10 hb))) (bxk hb 11 rfl) (tb11 hb) (bdix (n := 12) (((((((((hkw1.2.1 c3).2 _ rfl).2 _ rfl).2 _ rfl).2 _ rfl) _ rfl) _ rfl).2.2 _ rfl).2.2 _ rfl).1 rfl) (((((((((hkw1.2.1 c3).2 _ rfl).2 _ rfl).2 _ rfl).2 _ rfl) _ rfl) _ rfl).2.2 _ rfl).2.2 _ rfl).1 <| w_rv b46 d46_121 r46 ((((((((((hkw1.2.1 c3).2 _ rfl).2 _ rfl).2 _ rfl).2 _ rfl) _ rfl) _ rfl).2.2 _ rfl).2.2 _ rfl).2 _ rfl)) (fun c3 => w_f b46 d46_9 rfl rfl rfl <| w_j b46 d46_10 rfl (p46 _ _) <| w_f b46 d46_14 rfl rfl rfl <| w_f b46 d46_16 rfl rfl rfl <| w_gi b46 d46_17 rfl rfl hkw1.1 (bxk hb 8 rfl) (tb8 hb) rfl <| w_f b46 d46_20 rfl rfl rfl <| w_f b46 d46_22 rfl (pf_irem (bd_gI _ _ _) ⟨by decide, by decide⟩) rfl <| w_f b46 d46_23 rfl rfl rfl <| w_f b46 d46_24 rfl (pf_imul _ 4) rfl <| w_f b46 d46_25 rfl rfl rfl <| w_f b46 d46_27 rfl rfl rfl <| w_gr b46 d46_28 rfl rfl hkw1.1 (bxk hb 8 rfl) (tb8 hb) rfl (bxr hb 12 rfl) <| w_f b46 d46_31 rfl rfl rfl <| w_f b46 d46_33 rfl rfl rfl <| w_gi b46 d46_34 rfl rfl hkw1.1 (bxk hb 8 rfl) (tb8 hb) rfl <| w_ias b46 d46_37 rfl hkw1.1 (bxk hb 12 rfl) (tb12 hb) (bdix (n := 400) (hkw1.2.2 c3).1 rfl) (hkw1.2.2 c3).1 <| w_f b46 d46_38 rfl rfl rfl <| w_gr b46 d46_39 rfl rfl (Sh_sI hkw1.1 (slt_a (tb12 hb))) (bxk hb 8 rfl) (tb8 hb) rfl (bxr hb 12 rfl) <| w_f b46 d46_42 rfl rfl rfl <| w_f b46 d46_44 rfl rfl rfl <| w_f b46 d46_45 rfl (pf_iadd _ 1) rfl <| w_f b46 d46_46 rfl rfl rfl <| w_ias b46 d46_47 rfl (Sh_sI hkw1.1 (slt_a (tb12 hb))) (bxk hb 12 rfl) (tb12 hb) (bdix (n := 400) ((hkw1.2.2 c3).2 _ rfl).1 rfl) ((hkw1.2.2 c3).2 _ rfl).1 <| w_f b46 d46_48 rfl rfl rfl <| w_gr b46 d46_49 rfl rfl (Sh_sI (Sh_sI hkw1.1 (slt_a (tb12 hb))) (slt_a (tb12 hb))) (bxk hb 8 rfl) (tb8 hb) rfl (bxr hb 12 rfl) <| w_f b46 d46_52 rfl rfl rfl <| w_f b46 d46_54 rfl rfl rfl <| w_f b46 d46_55 rfl (pf_iadd _ 2) rfl <| w_f b46 d46_56 rfl rfl rfl <| w_ias b46 d46_57 rfl (Sh_sI (Sh_sI hkw1.1 (slt_a (tb12 hb))) (slt_a (tb12 hb))) (bxk hb 12 rfl) (tb12 hb) (bdix (n := 400) (((hkw1.2.2 c3).2 _ rfl).2 _ rfl).1 rfl) (((hkw1.2.2 c3).2 _ rfl).2 _ rfl).1 <| w_f b46 d46_58 rfl rfl rfl <| w_gr b46 d46_59 rfl rfl (Sh_sI (Sh_sI (Sh_sI hkw1.1 (slt_a (tb12 hb))) (slt_a (tb12 hb))) (slt_a (tb12 hb))) (bxk hb 8 rfl) (tb8 hb) rfl (bxr hb 12 rfl) <| w_f b46 d46_62 rfl rfl rfl <| w_f b46 d46_64 rfl rfl rfl <| w_f b46 d46_65 rfl (pf_iadd _ 3) rfl <| w_f b46 d46_66 rfl rfl rfl <| w_ias b46 d46_68 rfl (Sh_sI (Sh_sI (Sh_sI hkw1.1 (slt_a (tb12 hb))) (slt_a (tb12 hb))) (slt_a (tb12 hb))) (bxk hb 12 rfl) (tb12 hb) (bdix (n := 400) ((((hkw1.2.2 c3).2 _ rfl).2 _ rfl).2 _ rfl).1 rfl) ((((hkw1.2.2 c3).2 _ rfl).2 _ rfl).2 _ rfl).1 <| w_f b46 d46_69 rfl rfl rfl <| w_f b46 d46_70 rfl rfl rfl <| w_gi b46 d46_71 rfl rfl (Sh_sI (Sh_sI (Sh_sI (Sh_sI hkw1.1 (slt_a (tb12 hb))) (slt_a (tb12 hb))) (slt_a (tb12 hb))) (slt_a (tb12 hb))) (bxk hb 8 rfl) (tb8 hb) rfl <| w_f b46 d46_74 rfl rfl rfl <| w_f b46 d46_75 rfl (pf_iadd _ 1) rfl <| w_pi b46 d46_76 rfl rfl (Sh_sI (Sh_sI (Sh_sI (Sh_sI hkw1.1 (slt_a (tb12 hb))) (slt_a (tb12 hb))) (slt_a (tb12 hb))) (slt_a (tb12 hb))) (bxk hb 8 rfl) (tb8 hb) rfl rfl rfl <| w_f b46 d46_79 rfl rfl rfl <| w_f b46 d46_80 rfl rfl rfl <| w_gi b46 d46_81 rfl rfl (Sh_sI (Sh_sI (Sh_sI (Sh_sI (Sh_sI hkw1.1 (slt_a (tb12 hb))) (slt_a (tb12 hb))) (slt_a (tb12 hb))) (slt_a (tb12 hb))) (slt_o (tb8 hb) rfl)) (bxk hb 8 rfl) (tb8 hb) rfl <| w_f b46 d46_84 rfl rfl rfl <| w_f b46 d46_86 rfl (pf_iadd _ 1) rfl <| w_pi b46 d46_87 rfl rfl (Sh_sI (Sh_sI (Sh_sI (Sh_sI (Sh_sI hkw1.1 (slt_a (tb12 hb))) (slt_a (tb12 hb))) (slt_a (tb12 hb))) (slt_a (tb12 hb))) (slt_o (tb8 hb) rfl)) (bxk hb 8 rfl) (tb8 hb) rfl rfl rfl <| w_f b46 d46_90 rfl rfl rfl <| w_gr b46 d46_91 rfl rfl (Sh_sI (Sh_sI (Sh_sI (Sh_sI (Sh_sI (Sh_sI hkw1.1 (slt_a (tb12 hb))) (slt_a (tb12 hb))) (slt_a (tb12 hb))) (slt_a (tb12 hb))) (slt_o (tb8 hb) rfl)) (slt_o (tb8 hb) rfl)) (bxk hb 8 rfl) (tb8 hb) rfl (bxr hb 9 rfl) <| w_f b46 d46_94 rfl rfl rfl <| w_f b46 d46_95 rfl rfl rfl <| w_ial b46 d46_96 rfl (Sh_sI (Sh_sI (Sh_sI (Sh_sI (Sh_sI (Sh_sI hkw1.1 (slt_a (tb12 hb))) (slt_a (tb12 hb))) (slt_a (tb12 hb))) (slt_a (tb12 hb))) (slt_o (tb8 hb) rfl)) (slt_o (tb8 hb) rfl)) (bxk hb 9 rfl) (tb9 hb) (bdix (n := 12) (((((((hkw1.2.2 c3).2 _ rfl).2 _ rfl).2 _ rfl).2 _ rfl) _ rfl) _ rfl).1 rfl) (((((((hkw1.2.2 c3).2 _ rfl).2 _ rfl).2 _ rfl).2 _ rfl) _ rfl) _ rfl).1 <| w_f b46 d46_97 rfl rfl rfl <| w_f b46 d46_98 rfl (pf_iadd _ 1) rfl <| w_ias b46 d46_99 rfl (Sh_sI (Sh_sI (Sh_sI (Sh_sI (Sh_sI (Sh_sI hkw1.1 (slt_a (tb12 hb))) (slt_a (tb12 hb))) (slt_a (tb12 hb))) (slt_a (tb12 hb))) (slt_o (tb8 hb) rfl)) (slt_o (tb8 hb) rfl)) (bxk hb 9 rfl) (tb9 hb) (bdix (n := 12) (((((((hkw1.2.2 c3).2 _ rfl).2 _ rfl).2 _ rfl).2 _ rfl) _ rfl) _ rfl).2.1 rfl) (((((((hkw1.2.2 c3).2 _ rfl).2 _ rfl).2 _ rfl).2 _ rfl) _ rfl) _ rfl).2.1 <| w_f b46 d46_100 rfl rfl rfl <| w_gr b46 d46_101 rfl rfl (Sh_sI (Sh_sI (Sh_sI (Sh_sI (Sh_sI (Sh_sI (Sh_sI hkw1.1 (slt_a (tb12 hb))) (slt_a (tb12 hb))) (slt_a (tb12 hb))) (slt_a (tb12 hb))) (slt_o (tb8 hb) rfl)) (slt_o (tb8 hb) rfl)) (slt_a (tb9 hb))) (bxk hb 8 rfl) (tb8 hb) rfl (bxr hb 10 rfl) <| w_f b46 d46_104 rfl rfl rfl <| w_f b46 d46_105 rfl rfl rfl <| w_ial b46 d46_106 rfl (Sh_sI (Sh_sI (Sh_sI (Sh_sI (Sh_sI (Sh_sI (Sh_sI hkw1.1 (slt_a (tb12 hb))) (slt_a (tb12 hb))) (slt_a (tb12 hb))) (slt_a (tb12 hb))) (slt_o (tb8 hb) rfl)) (slt_o (tb8 hb) rfl)) (slt_a (tb9 hb))) (bxk hb 10 rfl) (tb10 hb) (bdix (n := 12) ((((((((hkw1.2.2 c3).2 _ rfl).2 _ rfl).2 _ rfl).2 _ rfl) _ rfl) _ rfl).2.2 _ rfl).1 rfl) ((((((((hkw1.2.2 c3).2 _ rfl).2 _ rfl).2 _ rfl).2 _ rfl) _ rfl) _ rfl).2.2 _ rfl).1 <| w_f b46 d46_107 rfl rfl rfl <| w_f b46 d46_109 rfl (pf_iadd _ 1) rfl <| w_ias b46 d46_110 rfl (Sh_sI (Sh_sI (Sh_sI (Sh_sI (Sh_sI (Sh_sI (Sh_sI hkw1.1 (slt_a (tb12 hb))) (slt_a (tb12 hb))) (slt_a (tb12 hb))) (slt_a (tb12 hb))) (slt_o (tb8 hb) rfl)) (slt_o (tb8 hb) rfl)) (slt_a (tb9 hb))) (bxk hb 10 rfl) (tb10 hb) (bdix (n := 12) ((((((((hkw1.2.2 c3).2 _ rfl).2 _ rfl).2 _ rfl).2 _ rfl) _ rfl) _ rfl).2.2 _ rfl).2.1 rfl) ((((((((hkw1.2.2 c3).2 _ rfl).2 _ rfl).2 _ rfl).2 _ rfl) _ rfl) _ rfl).2.2 _ rfl).2.1 <| w_f b46 d46_111 rfl rfl rfl <| w_gr b46 d46_112 rfl rfl (Sh_sI (Sh_sI (Sh_sI (Sh_sI (Sh_sI (Sh_sI (Sh_sI (Sh_sI hkw1.1 (slt_a (tb12 hb))) (slt_a (tb12 hb))) (slt_a (tb12 hb))) (slt_a (tb12 hb))) (slt_o (tb8 hb) rfl)) (slt_o (tb8 hb) rfl)) (slt_a (tb9 hb))) (slt_a (tb10 hb))) (bxk hb 8 rfl) (tb8 hb) rfl (bxr hb 11 rfl) <| w_f b46 d46_115 rfl rfl rfl <| w_f b46 d46_116 rfl rfl rfl <| w_gi b46 d46_117 rfl rfl (Sh_sI (Sh_sI (Sh_sI (Sh_sI (Sh_sI (Sh_sI (Sh_sI (Sh_sI hkw1.1 (slt_a (tb12 hb))) (slt_a (tb12 hb))) (slt_a (tb12 hb))) (slt_a (tb12 hb))) (slt_o (tb8 hb) rfl)) (slt_o (tb8 hb) rfl)) (slt_a (tb9 hb))) (slt_a (tb10 hb))) (bxk hb 8 rfl) (tb8 hb) rfl <| w_ias b46 d46_120 rfl (Sh_sI (Sh_sI (Sh_sI (Sh_sI (Sh_sI (Sh_sI (Sh_sI (Sh_sI hkw1.1 (slt_a (tb12 hb))) (slt_a (tb12 hb))) (slt_a (tb12 hb))) (slt_a (tb12 hb))) (slt_o (tb8 hb) rfl)) (slt_o (tb8 hb) rfl)) (slt_a (tb9 hb))) (slt_a (tb10 hb))) (bxk hb 11 rfl) (tb11 hb) (bdix (n := 12) (((((((((hkw1.2.2 c3).2 _ rfl).2 _ rfl).2 _ rfl).2 _ rfl) _ rfl) _ rfl).2.2 _ rfl).2.2 _ rfl).1 rfl) (((((((((hkw1.2.2 c3).2 _ rfl).2 _ rfl).2 _ rfl).2 _ rfl) _ rfl) _ rfl).2.2 _ rfl).2.2 _ rfl).1 <| w_rv b46 d46_121 r46 ((((((((((hkw1.2.2 c3).2 _ rfl).2 _ rfl).2 _ rfl).2 _ rfl) _ rfl) _ rfl).2.2 _ rfl).2.2 _ rfl).2 _ rfl))) h
theorem e46 {w : PW} {Q : PO → PW → Prop} {b : Nat} {x1 : Int} {x2 : Int} {x3 : Int} (hs : Sh w) (hb : bx b) (hx1 : bd x1) (hx2 : bd x2) (hx3 : bd x3) (h : pC 45 [.ref (b + 8), iv x1, iv x3] w (kI fun u2 w1 => Sh w1 ∧ (u2 ≤ 0 → (0 ≤ (((gI w1 (b + 8) 3).tmod 100) * 4) ∧ (((gI w1 (b + 8) 3).tmod 100) * 4) < 400) ∧ ∀ w4 : PW, w4 = sI w1 (b + 12) (((gI w1 (b + 8) 3).tmod 100) * 4).toNat (gI w1 (b + 8) 2) → (0 ≤ ((((gI w1 (b + 8) 3).tmod 100) * 4) + 1) ∧ ((((gI w1 (b + 8) 3).tmod 100) * 4) + 1) < 400) ∧ ∀ w5 : PW, w5 = sI w4 (b + 12) ((((gI w1 (b + 8) 3).tmod 100) * 4) + 1).toNat x1 → (0 ≤ ((((gI w1 (b + 8) 3).tmod 100) * 4) + 2) ∧ ((((gI w1 (b + 8) 3).tmod 100) * 4) + 2) < 400) ∧ ∀ w6 : PW, w6 = sI w5 (b + 12) ((((gI w1 (b + 8) 3).tmod 100) * 4) + 2).toNat x2 → (0 ≤ ((((gI w1 (b + 8) 3).tmod 100) * 4) + 3) ∧ ((((gI w1 (b + 8) 3).tmod 100) * 4) + 3) < 400) ∧ ∀ w7 : PW, w7 = sI w6 (b + 12) ((((gI w1 (b + 8) 3).tmod 100) * 4) + 3).toNat 0 → ∀ w8 : PW, w8 = sI w7 (b + 8) 3 ((gI w7 (b + 8) 3) + 1) → ∀ w9 : PW, w9 = sI w8 (b + 8) 4 ((gI w8 (b + 8) 4) + 0) → (0 ≤ x1 ∧ x1 < 12) ∧ (0 ≤ x1 ∧ x1 < 12) ∧ ∀ w10 : PW, w10 = sI w9 (b + 9) x1.toNat ((gI w9 (b + 9) x1.toNat) + 1) → (0 ≤ x1 ∧ x1 < 12) ∧ (0 ≤ x1 ∧ x1 < 12) ∧ ∀ w11 : PW, w11 = sI w10 (b + 10) x1.toNat ((gI w10 (b + 10) x1.toNat) + 0) → (0 ≤ x1 ∧ x1 < 12) ∧ ∀ w12 : PW, w12 = sI w11 (b + 11) x1.toNat (gI w11 (b + 8) 2) → Q (.inl none) w12) ∧ (0 < u2 → (0 ≤ (((gI w1 (b + 8) 3).tmod 100) * 4) ∧ (((gI w1 (b + 8) 3).tmod 100) * 4) < 400) ∧ ∀ w13 : PW, w13 = sI w1 (b + 12) (((gI w1 (b + 8) 3).tmod 100) * 4).toNat (gI w1 (b + 8) 2) → (0 ≤ ((((gI w1 (b + 8) 3).tmod 100) * 4) + 1) ∧ ((((gI w1 (b + 8) 3).tmod 100) * 4) + 1) < 400) ∧ ∀ w14 : PW, w14 = sI w13 (b + 12) ((((gI w1 (b + 8) 3).tmod 100) * 4) + 1).toNat x1 → (0 ≤ ((((gI w1 (b + 8) 3).tmod 100) * 4) + 2) ∧ ((((gI w1 (b + 8) 3).tmod 100) * 4) + 2) < 400) ∧ ∀ w15 : PW, w15 = sI w14 (b + 12) ((((gI w1 (b + 8) 3).tmod 100) * 4) + 2).toNat x2 → (0 ≤ ((((gI w1 (b + 8) 3).tmod 100) * 4) + 3) ∧ ((((gI w1 (b + 8) 3).tmod 100) * 4) + 3) < 400) ∧ ∀ w16 : PW, w16 = sI w15 (b + 12) ((((gI w1 (b + 8) 3).tmod 100) * 4) + 3).toNat 1 → ∀ w17 : PW, w17 = sI w16 (b + 8) 3 ((gI w16 (b + 8) 3) + 1) → ∀ w18 : PW, w18 = sI w17 (b + 8) 4 ((gI w17 (b + 8) 4) + 1) → (0 ≤ x1 ∧ x1 < 12) ∧ (0 ≤ x1 ∧ x1 < 12) ∧ ∀ w19 : PW, w19 = sI w18 (b + 9) x1.toNat ((gI w18 (b + 9) x1.toNat) + 1) → (0 ≤ x1 ∧ x1 < 12) ∧ (0 ≤ x1 ∧ x1 < 12) ∧ ∀ w20 : PW, w20 = sI w19 (b + 10) x1.toNat ((gI w19 (b + 10) x1.toNat) + 1) → (0 ≤ x1 ∧ x1 < 12) ∧ ∀ w21 : PW, w21 = sI w20 (b + 11) x1.toNat (gI w20 (b + 8) 2) → Q (.inl none) w21))) : pC 46 [.ref (b + 8), iv x1, iv x2, iv x3] w Q :=
  (pC_in (Nat.le_of_ble_eq_true rfl) rfl Q).mpr (v46_0 hs hb hx1 hx2 hx3 h)
/-! 48: PinBarrel$Box.pass(I)V -/
theorem b48 : mB 48 = cX0_pass := rfl
theorem r48 : mR 48 = none := rfl
theorem p48 (a b : Nat) : phi 48 a ≤ phi 48 b := Nat.le_refl 0
theorem d48_0 : decode cX0_pass 0 = .ok (.iconst 0, 1) := by decide +kernel
theorem d48_1 : decode cX0_pass 1 = .ok (.istore_n 2, 1) := by decide +kernel
theorem d48_2 : decode cX0_pass 2 = .ok (.iload_n 2, 1) := by decide +kernel
theorem d48_3 : decode cX0_pass 3 = .ok (.iload_n 1, 1) := by decide +kernel
theorem d48_4 : decode cX0_pass 4 = .ok (.if_icmp .ge 102, 3) := by decide +kernel
theorem d48_7 : decode cX0_pass 7 = .ok (.iconst 0, 1) := by decide +kernel
theorem d48_8 : decode cX0_pass 8 = .ok (.istore_n 3, 1) := by decide +kernel
theorem d48_9 : decode cX0_pass 9 = .ok (.iload_n 3, 1) := by decide +kernel
theorem d48_10 : decode cX0_pass 10 = .ok (.aload_n 0, 1) := by decide +kernel
theorem d48_11 : decode cX0_pass 11 = .ok (.getfield 24, 3) := by decide +kernel
theorem d48_14 : decode cX0_pass 14 = .ok (.if_icmp .ge 50, 3) := by decide +kernel
theorem d48_17 : decode cX0_pass 17 = .ok (.aload_n 0, 1) := by decide +kernel
theorem d48_18 : decode cX0_pass 18 = .ok (.aload_n 0, 1) := by decide +kernel
theorem d48_19 : decode cX0_pass 19 = .ok (.getfield 48, 3) := by decide +kernel
theorem d48_22 : decode cX0_pass 22 = .ok (.getfield 172, 3) := by decide +kernel
theorem d48_25 : decode cX0_pass 25 = .ok (.aload_n 0, 1) := by decide +kernel
theorem d48_26 : decode cX0_pass 26 = .ok (.getfield 48, 3) := by decide +kernel
theorem d48_29 : decode cX0_pass 29 = .ok (.getfield 174, 3) := by decide +kernel
theorem d48_32 : decode cX0_pass 32 = .ok (.iload_n 3, 1) := by decide +kernel
theorem d48_33 : decode cX0_pass 33 = .ok (.invokevirtual 111, 3) := by decide +kernel
theorem d48_36 : decode cX0_pass 36 = .ok (.ifCond .eq 22, 3) := by decide +kernel
theorem d48_39 : decode cX0_pass 39 = .ok (.aload_n 0, 1) := by decide +kernel
theorem d48_40 : decode cX0_pass 40 = .ok (.getfield 48, 3) := by decide +kernel
theorem d48_43 : decode cX0_pass 43 = .ok (.iload_n 3, 1) := by decide +kernel
theorem d48_44 : decode cX0_pass 44 = .ok (.aload_n 0, 1) := by decide +kernel
theorem d48_45 : decode cX0_pass 45 = .ok (.getfield 27, 3) := by decide +kernel
theorem d48_48 : decode cX0_pass 48 = .ok (.iload_n 3, 1) := by decide +kernel
theorem d48_49 : decode cX0_pass 49 = .ok (.iaload, 1) := by decide +kernel
theorem d48_50 : decode cX0_pass 50 = .ok (.aload_n 0, 1) := by decide +kernel
theorem d48_51 : decode cX0_pass 51 = .ok (.iload_n 3, 1) := by decide +kernel
theorem d48_52 : decode cX0_pass 52 = .ok (.invokevirtual 130, 3) := by decide +kernel
theorem d48_55 : decode cX0_pass 55 = .ok (.invokevirtual 176, 3) := by decide +kernel
theorem d48_58 : decode cX0_pass 58 = .ok (.iinc 3 1, 3) := by decide +kernel
theorem d48_61 : decode cX0_pass 61 = .ok (.goto (-52), 3) := by decide +kernel
theorem d48_64 : decode cX0_pass 64 = .ok (.aload_n 0, 1) := by decide +kernel
theorem d48_65 : decode cX0_pass 65 = .ok (.getfield 48, 3) := by decide +kernel
theorem d48_68 : decode cX0_pass 68 = .ok (.aload_n 0, 1) := by decide +kernel
theorem d48_69 : decode cX0_pass 69 = .ok (.getfield 48, 3) := by decide +kernel
theorem d48_72 : decode cX0_pass 72 = .ok (.getfield 174, 3) := by decide +kernel
theorem d48_75 : decode cX0_pass 75 = .ok (.iconst 1, 1) := by decide +kernel
theorem d48_76 : decode cX0_pass 76 = .ok (.iadd, 1) := by decide +kernel
theorem d48_77 : decode cX0_pass 77 = .ok (.aload_n 0, 1) := by decide +kernel
theorem d48_78 : decode cX0_pass 78 = .ok (.getfield 9, 3) := by decide +kernel
theorem d48_81 : decode cX0_pass 81 = .ok (.invokestatic 127, 3) := by decide +kernel
theorem d48_84 : decode cX0_pass 84 = .ok (.putfield 174, 3) := by decide +kernel
theorem d48_87 : decode cX0_pass 87 = .ok (.aload_n 0, 1) := by decide +kernel
theorem d48_88 : decode cX0_pass 88 = .ok (.getfield 48, 3) := by decide +kernel
theorem d48_91 : decode cX0_pass 91 = .ok (.dup, 1) := by decide +kernel
theorem d48_92 : decode cX0_pass 92 = .ok (.getfield 180, 3) := by decide +kernel
theorem d48_95 : decode cX0_pass 95 = .ok (.iconst 1, 1) := by decide +kernel
theorem d48_96 : decode cX0_pass 96 = .ok (.iadd, 1) := by decide +kernel
theorem d48_97 : decode cX0_pass 97 = .ok (.putfield 180, 3) := by decide +kernel
theorem d48_100 : decode cX0_pass 100 = .ok (.iinc 2 1, 3) := by decide +kernel
theorem d48_103 : decode cX0_pass 103 = .ok (.goto (-101), 3) := by decide +kernel
theorem d48_106 : decode cX0_pass 106 = .ok (.return_, 1) := by decide +kernel
theorem v48_0 {w : PW} {Q : PO → PW → Prop} {b : Nat} {x1 : Int} (hs : Sh w) (hb : bx b) (hx1 : bd x1) (h : pX 48 2 [some (.ref b), some (iv x1), some (iv 0), none] [] w Q) : pX 48 0 [some (.ref b), some (iv x1), none, none] [] w Q :=
  w_f b48 d48_0 rfl rfl rfl <| w_f b48 d48_1 rfl rfl rfl <| h
theorem e48 {w : PW} {Q : PO → PW → Prop} {b : Nat} {x1 : Int} (hs : Sh w) (hb : bx b) (hx1 : bd x1) (h : pX 48 2 [some (.ref b), some (iv x1), some (iv 0), none] [] w Q) : pC 48 [.ref b, iv x1] w Q :=
  (pC_in (Nat.le_of_ble_eq_true rfl) rfl Q).mpr (v48_0 hs hb hx1 h)
theorem v48_2 {w : PW} {Q : PO → PW → Prop} {b : Nat} {x1 : Int} {x2 : Int} {o3 : Option Value} (hs : Sh w) (hb : bx b) (hx1 : bd x1) (hx2 : bd x2) (ho3 : pc2 o3 = false) (h : (x1 ≤ x2 → Q (.inl none) w) ∧ (x2 < x1 → pX 48 9 [some (.ref b), some (iv x1), some (iv x2), some (iv 0)] [] w Q)) : pX 48 2 [some (.ref b), some (iv x1), some (iv x2), o3] [] w Q :=
  w_f b48 d48_2 rfl rfl rfl <| w_f b48 d48_3 rfl rfl rfl <| w_icge b48 d48_4 rfl rfl (p48 _ _) hx2 hx1 (fun c1 => w_rv b48 d48_106 r48 (h.1 c1)) (fun c1 => w_f b48 d48_7 rfl rfl rfl <| w_f b48 d48_8 rfl rfl rfl <| (h.2 c1))
theorem v48_9 {w : PW} {Q : PO → PW → Prop} {b : Nat} {x1 : Int} {x2 : Int} {x3 : Int} (hs : Sh w) (hb : bx b) (hx1 : bd x1) (hx2 : bd x2) (hx3 : bd x3) (h : ((gI w b 4) ≤ x3 → (bd ((gI w (b + 8) 1) + 1)) ∧ ∀ w2 : PW, w2 = sI w (b + 8) 1 (wrp ((gI w (b + 8) 1) + 1) (gI w b 0)) → ∀ w3 : PW, w3 = sI w2 (b + 8) 2 ((gI w2 (b + 8) 2) + 1) → pX 48 2 [some (.ref b), some (iv x1), some (iv (x2 + 1)), some (iv x3)] [] w3 Q) ∧ (x3 < (gI w b 4) → (bd ((gI w b 1) * x3 + (gI w (b + 8) 0))) ∧ (0 ≤ (gI w (b + 8) 1) ∧ (gI w (b + 8) 1) < 64) ∧ ((¬ (tL (lP w b ((gI w b 1) * x3 + (gI w (b + 8) 0))) ((gI w (b + 8) 1)).toNat = true)) → pX 48 9 [some (.ref b), some (iv x1), some (iv x2), some (iv (x3 + 1))] [] w Q) ∧ ((tL (lP w b ((gI w b 1) * x3 + (gI w (b + 8) 0))) ((gI w (b + 8) 1)).toNat = true) → (0 ≤ x3 ∧ x3 < 12) ∧ (0 ≤ x3 ∧ x3 < 12) ∧ pC 46 [.ref (b + 8), iv x3, iv (gI w (b + 1) x3.toNat), iv ((gI w (b + 2) (x3).toNat) * (gI w b 3))] w (kV fun w5 => Sh w5 ∧ pX 48 9 [some (.ref b), some (iv x1), some (iv x2), some (iv (x3 + 1))] [] w5 Q)))) : pX 48 9 [some (.ref b), some (iv x1), some (iv x2), some (iv x3)] [] w Q :=
  w_f b48 d48_9 rfl rfl rfl <| w_f b48 d48_10 rfl rfl rfl <| w_gi b48 d48_11 rfl rfl hs (bx00 hb) (tb0 hb) rfl <| w_icge b48 d48_14 rfl rfl (p48 _ _) hx3 (bd_gI _ _ _) (fun c1 => w_f b48 d48_64 rfl rfl rfl <| w_gr b48 d48_65 rfl rfl hs (bx00 hb) (tb0 hb) rfl (bxr hb 8 rfl) <| w_f b48 d48_68 rfl rfl rfl <| w_gr b48 d48_69 rfl rfl hs (bx00 hb) (tb0 hb) rfl (bxr hb 8 rfl) <| w_gi b48 d48_72 rfl rfl hs (bxk hb 8 rfl) (tb8 hb) rfl <| w_f b48 d48_75 rfl rfl rfl <| w_f b48 d48_76 rfl (pf_iadd (gI w (b + 8) 1) 1) rfl <| w_f b48 d48_77 rfl rfl rfl <| w_gi b48 d48_78 rfl rfl hs (bx00 hb) (tb0 hb) rfl <| w_cc b48 d48_81 rfl (pcl_s1 (n := 2) rfl rfl rfl (by decide +kernel) rfl rfl) rfl <| c47 hs (h.1 c1).1 (bd_gI _ _ _) <| w_pi b48 d48_84 rfl rfl hs (bxk hb 8 rfl) (tb8 hb) rfl rfl rfl <| w_f b48 d48_87 rfl rfl rfl <| w_gr b48 d48_88 rfl rfl (Sh_sI hs (slt_o (tb8 hb) rfl)) (bx00 hb) (tb0 hb) rfl (bxr hb 8 rfl) <| w_f b48 d48_91 rfl rfl rfl <| w_gi b48 d48_92 rfl rfl (Sh_sI hs (slt_o (tb8 hb) rfl)) (bxk hb 8 rfl) (tb8 hb) rfl <| w_f b48 d48_95 rfl rfl rfl <| w_f b48 d48_96 rfl (pf_iadd _ 1) rfl <| w_pi b48 d48_97 rfl rfl (Sh_sI hs (slt_o (tb8 hb) rfl)) (bxk hb 8 rfl) (tb8 hb) rfl rfl rfl <| w_f b48 d48_100 rfl (pf_iinc rfl rfl) rfl <| w_j b48 d48_103 rfl (p48 _ _) <| (((h.1 c1).2 _ rfl) _ rfl)) (fun c1 => w_f b48 d48_17 rfl rfl rfl <| w_f b48 d48_18 rfl rfl rfl <| w_gr b48 d48_19 rfl rfl hs (bx00 hb) (tb0 hb) rfl (bxr hb 8 rfl) <| w_gi b48 d48_22 rfl rfl hs (bxk hb 8 rfl) (tb8 hb) rfl <| w_f b48 d48_25 rfl rfl rfl <| w_gr b48 d48_26 rfl rfl hs (bx00 hb) (tb0 hb) rfl (bxr hb 8 rfl) <| w_gi b48 d48_29 rfl rfl hs (bxk hb 8 rfl) (tb8 hb) rfl <| w_f b48 d48_32 rfl rfl rfl <| w_cc b48 d48_33 rfl (pcl_v (n := 3) rfl rfl rfl (by decide +kernel) (sh_isOb hs (bx00 hb) (tb0 hb)) rfl rfl) rfl <| c43 hs hb (bd_gI _ _ _) (bd_gI _ _ _) hx3 (h.2 c1).1 (h.2 c1).2.1 <| w_ifeqZ b48 d48_36 rfl rfl (p48 _ _) (fun c4 => w_f b48 d48_58 rfl (pf_iinc rfl rfl) rfl <| w_j b48 d48_61 rfl (p48 _ _) <| ((h.2 c1).2.2.1 c4)) (fun c4 => w_f b48 d48_39 rfl rfl rfl <| w_gr b48 d48_40 rfl rfl hs (bx00 hb) (tb0 hb) rfl (bxr hb 8 rfl) <| w_f b48 d48_43 rfl rfl rfl <| w_f b48 d48_44 rfl rfl rfl <| w_gr b48 d48_45 rfl rfl hs (bx00 hb) (tb0 hb) rfl (bxr hb 1 rfl) <| w_f b48 d48_48 rfl rfl rfl <| w_ial b48 d48_49 rfl hs (bxk hb 1 rfl) (tb1 hb) (bdix (n := 12) ((h.2 c1).2.2.2 c4).1 rfl) ((h.2 c1).2.2.2 c4).1 <| w_f b48 d48_50 rfl rfl rfl <| w_f b48 d48_51 rfl rfl rfl <| w_cc b48 d48_52 rfl (pcl_v (n := 1) rfl rfl rfl (by decide +kernel) (sh_isOb hs (bx00 hb) (tb0 hb)) rfl rfl) rfl <| c44 hs hb hx3 ((h.2 c1).2.2.2 c4).2.1 <| w_c b48 d48_55 rfl (pcl_v (n := 3) rfl rfl rfl (by decide +kernel) (sh_isOb hs (bxk hb 8 rfl) (tb8 hb)) rfl rfl) rfl _ (hK_V fun w5 hkw5 => w_f b48 d48_58 rfl (pf_iinc rfl rfl) rfl <| w_j b48 d48_61 rfl (p48 _ _) <| hkw5.2) ((h.2 c1).2.2.2 c4).2.2))
theorem c45 {w : PW} {Q : PO → PW → Prop} {b t : Nat} {m : Row} {x : Int} (hs : Sh w) (hB : BR w b m) (ht : (t : Int) < m 4) (hx : 0 ≤ x ∧ x ≤ 48) (h : Q (.inl (some (iv (if rT m t 4 = -1 then 0 else max 0 (rT m t 4 + x - m 8))))) w) : pC 45 [.ref (b + 8), iv (t : Nat), iv x] w Q := by
  have h4 := hB.ok.t
  have h8 := hB.ok.pt
  obtain ⟨a1, a2, a3, a4, a5⟩ := hB.T ht
  obtain ⟨b1, b2, b3, b4, b5⟩ := hB.ok.T ht
  refine e45 hs hB.bx (bdk (by omega)) ⟨by omega, by omega⟩ ?_
  rw [Int.toNat_natCast, a5, hB.pt]
  exact ⟨⟨by omega, by omega⟩, fun q => ⟨⟨by omega, by omega⟩, by rw [if_neg q] at h; exact h⟩, fun q => by rw [if_pos q] at h; exact h⟩
theorem pluckW {w w4 w5 w6 w7 w8 w9 w10 w11 w12 : PW} {b t : Nat} {m : Row} {x2 z : Int} (hs : Sh w) (hB : BR w b m) (ht : (t : Int) < m 4) (hr : m 9 ≤ 12 * m 8 + 11) (hx2 : x2 = rT m t 0) (hz : z = rBuzz m t)
    (e4 : w4 = sI w (b + 12) (((gI w (b + 8) 3).tmod 100) * 4).toNat (gI w (b + 8) 2)) (e5 : w5 = sI w4 (b + 12) ((((gI w (b + 8) 3).tmod 100) * 4) + 1).toNat (t : Int)) (e6 : w6 = sI w5 (b + 12) ((((gI w (b + 8) 3).tmod 100) * 4) + 2).toNat x2) (e7 : w7 = sI w6 (b + 12) ((((gI w (b + 8) 3).tmod 100) * 4) + 3).toNat z) (e8 : w8 = sI w7 (b + 8) 3 ((gI w7 (b + 8) 3) + 1)) (e9 : w9 = sI w8 (b + 8) 4 ((gI w8 (b + 8) 4) + z)) (e10 : w10 = sI w9 (b + 9) t ((gI w9 (b + 9) t) + 1)) (e11 : w11 = sI w10 (b + 10) t ((gI w10 (b + 10) t) + z)) (e12 : w12 = sI w11 (b + 11) t (gI w11 (b + 8) 2)) : Sh w12 ∧ BR w12 b (rPluck m t) ∧ OB b w w12 := by
  have hb := hB.bx
  have a0 := bx_lt hb
  have h4 := hB.ok.t
  have h9 := hB.ok.pp
  have h8 := hB.ok.pt
  have h10 := hB.ok.pb
  have h1 := hB.ok.u
  have h0 := hB.ok.s
  have h5 := hB.ok.n
  have hzb := rBuzz_bd m t
  obtain ⟨a1, a2, a3, a4, a5⟩ := hB.T ht
  obtain ⟨b1, b2, b3, b4, b5⟩ := hB.ok.T ht
  have eP : (gI w (b + 8) 3).tmod 100 * 4 = ((4 * ((m 9).toNat % 100) : Nat) : Int) := by
    rw [hB.pp, Int.tmod_eq_emod_of_nonneg h9.1]
    omega
  have eP1 : ((4 * ((m 9).toNat % 100) : Nat) : Int) + 1 = ((4 * ((m 9).toNat % 100) + 1 : Nat) : Int) := by omega
  have eP2 : ((4 * ((m 9).toNat % 100) : Nat) : Int) + 2 = ((4 * ((m 9).toNat % 100) + 2 : Nat) : Int) := by omega
  have eP3 : ((4 * ((m 9).toNat % 100) : Nat) : Int) + 3 = ((4 * ((m 9).toNat % 100) + 3 : Nat) : Int) := by omega
  rw [eP, Int.toNat_natCast] at e4
  rw [eP, eP1, Int.toNat_natCast] at e5
  rw [eP, eP2, Int.toNat_natCast] at e6
  rw [eP, eP3, Int.toNat_natCast] at e7
  obtain ⟨s4, g4, l4, k4⟩ := stI e4 hs (by omega) (slt_a (tb12 hb)) (bd_gI _ _ _)
  obtain ⟨s5, g5, l5, k5⟩ := stI e5 s4 (by omega) (slt_a (tb12 hb)) (bdk (by omega))
  obtain ⟨s6, g6, l6, k6⟩ := stI e6 s5 (by omega) (slt_a (tb12 hb)) ⟨by omega, by omega⟩
  obtain ⟨s7, g7, l7, k7⟩ := stI e7 s6 (by omega) (slt_a (tb12 hb)) ⟨by omega, by omega⟩
  have v7 : ∀ a j, a ≠ b + 12 → gI w7 a j = gI w a j := fun a j ha => by rw [g7, if_neg (by omega), g6, if_neg (by omega), g5, if_neg (by omega), g4, if_neg (by omega)]
  rw [v7 _ _ (by omega), hB.pp] at e8
  obtain ⟨s8, g8, l8, k8⟩ := stI e8 s7 (by omega) (slt_o (tb8 hb) rfl) ⟨by omega, by omega⟩
  rw [g8, if_neg (by omega), v7 _ _ (by omega), hB.pb] at e9
  obtain ⟨s9, g9, l9, k9⟩ := stI e9 s8 (by omega) (slt_o (tb8 hb) rfl) ⟨by omega, by omega⟩
  rw [g9, if_neg (by omega), g8, if_neg (by omega), v7 _ _ (by omega), a3] at e10
  obtain ⟨s10, g10, l10, k10⟩ := stI e10 s9 (by omega) (slt_a (tb9 hb)) ⟨by omega, by omega⟩
  rw [g10, if_neg (by omega), g9, if_neg (by omega), g8, if_neg (by omega), v7 _ _ (by omega), a4] at e11
  obtain ⟨s11, g11, l11, k11⟩ := stI e11 s10 (by omega) (slt_a (tb10 hb)) ⟨by omega, by omega⟩
  rw [g11, if_neg (by omega), g10, if_neg (by omega), g9, if_neg (by omega), g8, if_neg (by omega), v7 _ _ (by omega), hB.pt] at e12
  obtain ⟨s12, g12, l12, k12⟩ := stI e12 s11 (by omega) (slt_a (tb11 hb)) ⟨by omega, by omega⟩
  have kk : ∀ a, ¬ (b + 8 ≤ a ∧ a < b + 13) → w12.2.2 a = w.2.2 a := fun a ha => by rw [k12 a (by omega), k11 a (by omega), k10 a (by omega), k9 a (by omega), k8 a (by omega), k7 a (by omega), k6 a (by omega), k5 a (by omega), k4 a (by omega)]
  have vv : ∀ a j, ¬ (b + 8 ≤ a ∧ a < b + 13) → gI w12 a j = gI w a j := fun a j ha => gI_cell (kk a ha) j
  have v8 : ∀ a j, ¬ (a = b + 9 ∨ a = b + 10 ∨ a = b + 11) → gI w12 a j = gI w9 a j := fun a j ha => by rw [g12, if_neg (by omega), g11, if_neg (by omega), g10, if_neg (by omega)]
  have e8' : ∀ j, ¬ (j = 3 ∨ j = 4) → gI w12 (b + 8) j = gI w (b + 8) j := fun j hj => by rw [v8 _ _ (by omega), g9, if_neg (by omega), g8, if_neg (by omega), v7 _ _ (by omega)]
  refine ⟨s12, ⟨hb, rPluck_ok hB.ok ht hr, ?_, fun i hi => ?_, ?_, fun i hi => ?_, ?_, fun k hk hk2 => ?_, fun j s hj hs9 => ?_⟩, fun c hc => kk c (by omega)⟩
  · rw [rPluck_lo (show 0 < 9 by decide), rPluck_lo (show 1 < 9 by decide), rPluck_lo (show 2 < 9 by decide), rPluck_lo (show 3 < 9 by decide), rPluck_lo (show 4 < 9 by decide), vv _ _ (by omega), vv _ _ (by omega), vv _ _ (by omega), vv _ _ (by omega), vv _ _ (by omega)]
    exact ⟨hB.s, hB.u, hB.g, hB.v, hB.t⟩
  · rw [rPluck_lo (show 4 < 9 by decide)] at hi
    obtain ⟨f1, f2, f3, f4, f5⟩ := hB.T hi
    rw [vv _ _ (by omega), vv _ _ (by omega), rPluck_T (by omega) (by decide) (Or.inr (by decide)), rPluck_T (by omega) (by decide) (Or.inr (by decide))]
    refine ⟨f1, f2, ?_⟩
    by_cases e : i = t
    · subst e
      rw [rPluck_T2 (by omega), rPluck_T3 (by omega), rPluck_T4 (by omega)]
      refine ⟨?_, ?_, ?_⟩
      · rw [g12, if_neg (by omega), g11, if_neg (by omega), g10, if_pos ⟨rfl, rfl⟩]
      · rw [g12, if_neg (by omega), g11, if_pos ⟨rfl, rfl⟩, hz]
      · rw [g12, if_pos ⟨rfl, rfl⟩]
    · rw [rPluck_T (by omega) (by decide) (Or.inl e), rPluck_T (by omega) (by decide) (Or.inl e), rPluck_T (by omega) (by decide) (Or.inl e)]
      have vt : ∀ a, ¬ (a = b + 8 ∨ a = b + 12) → gI w12 a i = gI w a i := fun a ha => by rw [g12, if_neg (by omega), g11, if_neg (by omega), g10, if_neg (by omega), g9, if_neg (by omega), g8, if_neg (by omega), v7 _ _ (by omega)]
      rw [vt _ (by omega), vt _ (by omega), vt _ (by omega)]
      exact ⟨f3, f4, f5⟩
  · rw [rPluck_lo (show 5 < 9 by decide), vv _ _ (by omega)]
    exact hB.n
  · rw [rPluck_lo (show 5 < 9 by decide)] at hi
    rw [vv _ _ (by omega), vv _ _ (by omega), vv _ _ (by omega), rPluck_N (by omega) (by omega) (by decide), rPluck_N (by omega) (by omega) (by decide), rPluck_N (by omega) (by omega) (by decide)]
    exact hB.N hi
  · rw [rPluck_lo (show 6 < 9 by decide), rPluck_lo (show 7 < 9 by decide), rPluck_lo (show 8 < 9 by decide), rPluck_9, rPluck_10, e8' 0 (by omega), e8' 1 (by omega), e8' 2 (by omega), v8 _ _ (by omega), v8 _ _ (by omega), g9, if_neg (by omega), g9, if_pos ⟨rfl, rfl⟩, g8, if_pos ⟨rfl, rfl⟩, hz]
    exact ⟨hB.pu, hB.ps, hB.pt, rfl, rfl⟩
  · rw [rPluck_9] at hk2
    rw [v8 _ _ (by omega), g9, if_neg (by omega), g8, if_neg (by omega), g7, g6, g5, g4, hB.pt]
    unfold rPluck
    by_cases q0 : k = 4 * ((m 9).toNat % 100)
    · rw [if_neg (by omega), if_neg (by omega), if_neg (by omega), if_pos ⟨rfl, q0⟩, if_pos (by omega)]
    · by_cases q1 : k = 4 * ((m 9).toNat % 100) + 1
      · rw [if_neg (by omega), if_neg (by omega), if_pos ⟨rfl, q1⟩, if_neg (by omega), if_pos (by omega)]
      · by_cases q2 : k = 4 * ((m 9).toNat % 100) + 2
        · rw [if_neg (by omega), if_pos ⟨rfl, q2⟩, if_neg (by omega), if_neg (by omega), if_pos (by omega), hx2]
        · by_cases q3 : k = 4 * ((m 9).toNat % 100) + 3
          · rw [if_pos ⟨rfl, q3⟩, if_neg (by omega), if_neg (by omega), if_neg (by omega), if_pos (by omega), hz]
          · rw [if_neg (by omega), if_neg (by omega), if_neg (by omega), if_neg (by omega), if_neg (by omega), if_neg (by omega), if_neg (by omega), if_neg (by omega), if_neg (by omega), if_neg (by omega), if_neg (by omega), if_neg (by omega), if_neg (by omega)]
            refine hB.M hk ?_
            omega
  · rw [gL_cell (kk (b + 3) (by omega)), hB.P hj hs9, rTr_eq hB.ok (rPluck_lo (show 0 < 9 by decide)) (rPluck_lo (show 1 < 9 by decide)) (rPluck_lo (show 4 < 9 by decide)) (fun u s i hu hs hi => rPluck_P (by omega) hu hs)]
theorem c46 {w : PW} {Q : PO → PW → Prop} {b t : Nat} {m : Row} (hs : Sh w) (hB : BR w b m) (ht : (t : Int) < m 4) (hr : m 9 ≤ 12 * m 8 + 11) (h : ∀ w', Sh w' → BR w' b (rPluck m t) → OB b w w' → Q (.inl none) w') : pC 46 [.ref (b + 8), iv (t : Nat), iv (rT m t 0), iv (sNeed m t)] w Q := by
  have h4 := hB.ok.t
  have h8 := hB.ok.pt
  have h9 := hB.ok.pp
  have hn := sNeed_bd hB.ok ht
  obtain ⟨b1, b2, b3, b4, b5⟩ := hB.ok.T ht
  have ht12 : 0 ≤ (t : Int) ∧ (t : Int) < 12 := by omega
  have hP : 0 ≤ (gI w (b + 8) 3).tmod 100 ∧ (gI w (b + 8) 3).tmod 100 < 100 := by
    rw [hB.pp, Int.tmod_eq_emod_of_nonneg h9.1]
    omega
  refine e46 hs hB.bx (bdk (by omega)) ⟨by omega, by omega⟩ ⟨by omega, by omega⟩ (c45 hs hB ht (by omega) (kI_iv (by split <;> (constructor <;> omega)) ⟨hs, fun q => ?_, fun q => ?_⟩))
  · refine ⟨⟨by omega, by omega⟩, fun w4 e4 => ⟨⟨by omega, by omega⟩, fun w5 e5 => ⟨⟨by omega, by omega⟩, fun w6 e6 => ⟨⟨by omega, by omega⟩, fun w7 e7 w8 e8 w9 e9 => ⟨ht12, ht12, fun w10 e10 => ⟨ht12, ht12, fun w11 e11 => ⟨ht12, fun w12 e12 => ?_⟩⟩⟩⟩⟩⟩⟩
    have := pluckW hs hB ht hr rfl (z := 0) (by
      unfold rBuzz
      by_cases q1 : rT m t 4 = -1
      · rw [if_neg (fun z => z.1 q1)]
      · rw [if_neg q1] at q
        rw [if_neg (by omega)]) e4 e5 e6 e7 e8 e9 e10 e11 e12
    exact h w12 this.1 this.2.1 this.2.2
  · refine ⟨⟨by omega, by omega⟩, fun w4 e4 => ⟨⟨by omega, by omega⟩, fun w5 e5 => ⟨⟨by omega, by omega⟩, fun w6 e6 => ⟨⟨by omega, by omega⟩, fun w7 e7 w8 e8 w9 e9 => ⟨ht12, ht12, fun w10 e10 => ⟨ht12, ht12, fun w11 e11 => ⟨ht12, fun w12 e12 => ?_⟩⟩⟩⟩⟩⟩⟩
    have := pluckW hs hB ht hr rfl (z := 1) (by
      unfold rBuzz
      by_cases q1 : rT m t 4 = -1
      · rw [if_pos q1] at q; omega
      · rw [if_neg q1] at q
        rw [if_pos ⟨q1, by omega⟩]) e4 e5 e6 e7 e8 e9 e10 e11 e12
    exact h w12 this.1 this.2.1 this.2.2
def rTk (m : Row) : Nat → Row
  | 0 => m
  | i + 1 => if rPin m (m 6).toNat (m 7).toNat i = true then rPluck (rTk m i) i else rTk m i
def rTick (m : Row) : Row := fun j => if j = 7 then (if m 7 + 1 < m 0 then m 7 + 1 else 0) else if j = 8 then m 8 + 1 else rTk m (m 4).toNat j
def rRun (m : Row) : Nat → Row
  | 0 => m
  | n + 1 => rTick (rRun m n)
section RTK
variable {m : Row}
theorem rTk_lo {i j : Nat} (h : j < 9) : rTk m i j = m j := by
  induction i with
  | zero => rfl
  | succ i ih =>
    unfold rTk
    split
    · rw [rPluck_lo h, ih]
    · exact ih
theorem rTk_mid {i j : Nat} (hi : i ≤ 12) (h1 : 71 ≤ j) (h2 : j < 443) : rTk m i j = m j := by
  induction i with
  | zero => rfl
  | succ i ih =>
    unfold rTk
    split
    · rw [rPluck_mid (by omega) h1 h2, ih (by omega)]
    · exact ih (by omega)
theorem rTk_ok (h : RowOK m) (hF : m 9 ≤ 12 * m 8) : ∀ i : Nat, (i : Int) ≤ m 4 → RowOK (rTk m i) ∧ rTk m i 9 ≤ m 9 + i := by
  intro i
  have h4 := h.t
  induction i with
  | zero => intro _; exact ⟨h, by show m 9 ≤ m 9 + 0; omega⟩
  | succ i ih =>
    intro hi
    obtain ⟨i1, i2⟩ := ih (by omega)
    have h8 : rTk m i 8 = m 8 := rTk_lo (by decide)
    have h4' : rTk m i 4 = m 4 := rTk_lo (by decide)
    unfold rTk
    split
    · refine ⟨rPluck_ok i1 (by omega) (by omega), ?_⟩
      rw [rPluck_9]
      omega
    · exact ⟨i1, by omega⟩
theorem rTick_lo {j : Nat} (h : j < 7) : rTick m j = m j := by
  unfold rTick
  rw [if_neg (by omega), if_neg (by omega), rTk_lo (by omega)]
theorem rTick_8 : rTick m 8 = m 8 + 1 := by
  unfold rTick
  rw [if_neg (by decide), if_pos rfl]
theorem rTick_hi {j : Nat} (h : 9 ≤ j) : rTick m j = rTk m (m 4).toNat j := by
  unfold rTick
  rw [if_neg (by omega), if_neg (by omega)]
theorem rTick_mid (hm : RowOK m) {j : Nat} (h1 : 71 ≤ j) (h2 : j < 443) : rTick m j = m j := by
  have h4 := hm.t
  rw [rTick_hi (by omega), rTk_mid (by omega) h1 h2]
/-- a row in which the place and the ticks alone are others -/
theorem RowOK.st {m' : Row} (h : RowOK m) (h7 : 0 ≤ m' 7 ∧ m' 7 < m 0) (h8 : m 8 ≤ m' 8 ∧ m' 8 ≤ 100200) (ho : ∀ j, j ≠ 7 → j ≠ 8 → m' j = m j) : RowOK m' := by
  have e : ∀ j, j < 7 → m' j = m j := fun j hj => ho j (by omega) (by omega)
  have a1 := h.pp
  have a2 := h.pt
  have hT : ∀ t k, rT m' t k = rT m t k := fun t k => ho _ (by omega) (by omega)
  have hN : ∀ t k, rN m' t k = rN m t k := fun t k => ho _ (by omega) (by omega)
  have hP : ∀ u s t, rPin m' u s t = rPin m u s t := fun u s t => by unfold rPin; rw [ho _ (by omega) (by omega)]
  unfold RowOK
  rw [e 0 (by decide), e 1 (by decide), e 2 (by decide), e 3 (by decide), e 4 (by decide), e 5 (by decide), e 6 (by decide), ho 9 (by decide) (by decide), ho 10 (by decide) (by decide)]
  refine ⟨h.s, h.u, h.g, h.v, h.t, h.n, h.pu, h7, ⟨by omega, h8.2⟩, ⟨by omega, by omega⟩, h.pb, fun t ht => ?_, fun i hi => ?_, fun u s hu hs => ?_⟩
  · have := h.T ht
    rw [hT, hT, hT, hT, hT]
    omega
  · rw [hN, hN, hN]
    exact h.N hi
  · have := h.P hu hs
    rw [ho _ (by omega) (by omega)]
    exact ⟨this.1, fun t ht q => this.2 t ht (by rw [hP] at q; exact q)⟩
theorem rTick_ok (h : RowOK m) (hF : m 9 ≤ 12 * m 8) (h8 : m 8 < 100200) : RowOK (rTick m) ∧ rTick m 9 ≤ 12 * rTick m 8 := by
  have h4 := h.t
  have h7 := h.ps
  obtain ⟨i1, i2⟩ := rTk_ok h hF (m 4).toNat (by omega)
  have e0 : rTk m (m 4).toNat 0 = m 0 := rTk_lo (by decide)
  have e8 : rTk m (m 4).toNat 8 = m 8 := rTk_lo (by decide)
  refine ⟨i1.st ?_ ?_ (fun j h7 h8 => ?_), ?_⟩
  · show 0 ≤ (if m 7 + 1 < m 0 then m 7 + 1 else 0) ∧ (if m 7 + 1 < m 0 then m 7 + 1 else 0) < rTk m (m 4).toNat 0
    rw [e0]
    split <;> omega
  · rw [rTick_8, e8]
    omega
  · unfold rTick
    rw [if_neg h7, if_neg h8]
  · rw [rTick_8, rTick_hi (by decide)]
    omega
theorem rRun_ok (h : RowOK m) (hF : m 9 ≤ 12 * m 8) : ∀ n : Nat, m 8 + n ≤ 100200 → RowOK (rRun m n) ∧ rRun m n 9 ≤ 12 * rRun m n 8 ∧ rRun m n 8 = m 8 + n := by
  intro n
  induction n with
  | zero => intro _; exact ⟨h, hF, by show m 8 = m 8 + 0; omega⟩
  | succ n ih =>
    intro hn
    obtain ⟨i1, i2, i3⟩ := ih (by omega)
    have := rTick_ok i1 i2 (by omega)
    exact ⟨this.1, this.2, by show rTick (rRun m n) 8 = _; rw [rTick_8, i3]; omega⟩
end RTK
theorem tickW {w w2 w3 : PW} {b : Nat} {m : Row} (hs : Sh w) (hR : RowOK m) (hF : m 9 ≤ 12 * m 8) (h8 : m 8 < 100200) (hB : BR w b (rTk m (m 4).toNat)) (e2 : w2 = sI w (b + 8) 1 (wrp ((gI w (b + 8) 1) + 1) (gI w b 0))) (e3 : w3 = sI w2 (b + 8) 2 ((gI w2 (b + 8) 2) + 1)) : Sh w3 ∧ BR w3 b (rTick m) ∧ OB b w w3 := by
  have hb := hB.bx
  have a0 := bx_lt hb
  have h0 := hR.s
  have h7 := hR.ps
  have h4 := hR.t
  have h1 := hR.u
  have r0 : rTk m (m 4).toNat 0 = m 0 := rTk_lo (by decide)
  have r7 : rTk m (m 4).toNat 7 = m 7 := rTk_lo (by decide)
  have r8 : rTk m (m 4).toNat 8 = m 8 := rTk_lo (by decide)
  have ew : wrp (m 7 + 1) (m 0) = if m 7 + 1 < m 0 then m 7 + 1 else 0 := by
    unfold wrp
    split <;> omega
  rw [hB.ps, hB.s, r0, r7, ew] at e2
  obtain ⟨s2, g2, l2, k2⟩ := stI e2 hs (by omega) (slt_o (tb8 hb) rfl) (by split <;> (constructor <;> omega))
  have hp8 := hR.pt
  rw [g2, if_neg (by omega), hB.pt, r8] at e3
  obtain ⟨s3, g3, l3, k3⟩ := stI e3 s2 (by omega) (slt_o (tb8 hb) rfl) ⟨by omega, by omega⟩
  have kk : ∀ a, a ≠ b + 8 → w3.2.2 a = w.2.2 a := fun a ha => by rw [k3 a ha, k2 a ha]
  have vv : ∀ a j, a ≠ b + 8 → gI w3 a j = gI w a j := fun a j ha => gI_cell (kk a ha) j
  have lo : ∀ j, j < 7 → rTick m j = rTk m (m 4).toNat j := fun j hj => by rw [rTick_lo hj, rTk_lo (by omega)]
  have hi9 : ∀ j, 9 ≤ j → rTick m j = rTk m (m 4).toNat j := fun j hj => rTick_hi hj
  refine ⟨s3, ⟨hb, (rTick_ok hR hF h8).1, ?_, fun i hi => ?_, ?_, fun i hi => ?_, ?_, fun k hk hk2 => ?_, fun j s hj hs9 => ?_⟩, fun c hc => kk c (by omega)⟩
  · rw [lo 0 (by decide), lo 1 (by decide), lo 2 (by decide), lo 3 (by decide), lo 4 (by decide), vv _ _ (by omega), vv _ _ (by omega), vv _ _ (by omega), vv _ _ (by omega), vv _ _ (by omega)]
    exact ⟨hB.s, hB.u, hB.g, hB.v, hB.t⟩
  · rw [lo 4 (by decide)] at hi
    have e : ∀ k, rT (rTick m) i k = rT (rTk m (m 4).toNat) i k := fun k => hi9 _ (by omega)
    rw [e, e, e, e, e, vv _ _ (by omega), vv _ _ (by omega), vv _ _ (by omega), vv _ _ (by omega), vv _ _ (by omega)]
    exact hB.T hi
  · rw [lo 5 (by decide), vv _ _ (by omega)]
    exact hB.n
  · rw [lo 5 (by decide)] at hi
    have e : ∀ k, rN (rTick m) i k = rN (rTk m (m 4).toNat) i k := fun k => hi9 _ (by omega)
    rw [e, e, e, vv _ _ (by omega), vv _ _ (by omega), vv _ _ (by omega)]
    exact hB.N hi
  · rw [lo 6 (by decide), rTick_8, hi9 9 (by decide), hi9 10 (by decide)]
    refine ⟨?_, ?_, ?_, ?_, ?_⟩
    · rw [g3, if_neg (by omega), g2, if_neg (by omega)]
      exact hB.pu
    · rw [g3, if_neg (by omega), g2, if_pos ⟨rfl, rfl⟩]
      rfl
    · rw [g3, if_pos ⟨rfl, rfl⟩]
    · rw [g3, if_neg (by omega), g2, if_neg (by omega)]
      exact hB.pp
    · rw [g3, if_neg (by omega), g2, if_neg (by omega)]
      exact hB.pb
  · rw [hi9 9 (by decide)] at hk2
    rw [vv _ _ (by omega), hi9 _ (by omega)]
    exact hB.M hk hk2
  · rw [gL_cell (kk (b + 3) (by omega)), hB.P hj hs9]
    exact (rTr_eq hB.ok (lo 0 (by decide)) (lo 1 (by decide)) (lo 4 (by decide)) (fun u s i hu hs hi => by unfold rPin; rw [hi9 _ (by omega)]) j s).symm
theorem l48_9 {w : PW} {Q : PO → PW → Prop} {b n j : Nat} {m : Row} (hs : Sh w) (hb : bx b) (hR : RowOK m) (hF : m 9 ≤ 12 * m 8) (h8 : m 8 < 100200) (hn : n ≤ 1000) (hj : j < n) (h : ∀ w2, Sh w2 → BR w2 b (rTick m) → OB b w w2 → pX 48 2 [some (.ref b), some (iv (n : Nat)), some (iv ((j + 1 : Nat) : Int)), some (iv (((m 4).toNat : Nat) : Int))] [] w2 Q) : ∀ k i : Nat, i + k = (m 4).toNat → ∀ w', Sh w' → BR w' b (rTk m i) → OB b w w' → pX 48 9 [some (.ref b), some (iv (n : Nat)), some (iv (j : Nat)), some (iv (i : Nat))] [] w' Q := by
  intro k
  induction k with
  | zero =>
    intro i hi w' hs1 hB hO
    have h4 := hR.t
    refine v48_9 hs1 hb (bdk (by omega)) (bdk (by omega)) (bdk (by omega)) ?_
    have r4 : rTk m i 4 = m 4 := rTk_lo (by decide)
    have r7 : rTk m i 7 = m 7 := rTk_lo (by decide)
    have h7 := hR.ps
    have h0 := hR.s
    rw [show i = (m 4).toNat from by omega] at hB r7 ⊢
    rw [hB.t, show rTk m (m 4).toNat 4 = m 4 from rTk_lo (by decide)]
    refine ⟨fun _ => ⟨by rw [hB.ps, r7]; exact ⟨by omega, by omega⟩, fun w2 e2 w3 e3 => ?_⟩, fun q => by omega⟩
    have := tickW hs1 hR hF h8 hB e2 e3
    exact h w3 this.1 this.2.1 (hO.tr this.2.2)
  | succ k ih =>
    intro i hi w' hs1 hB hO
    have h4 := hR.t
    have h7 := hR.ps
    have h6 := hR.pu
    have h0 := hR.s
    have r4 : rTk m i 4 = m 4 := rTk_lo (by decide)
    have r0 : rTk m i 0 = m 0 := rTk_lo (by decide)
    have r1 : rTk m i 1 = m 1 := rTk_lo (by decide)
    have r6 : rTk m i 6 = m 6 := rTk_lo (by decide)
    have r7 : rTk m i 7 = m 7 := rTk_lo (by decide)
    have r8 : rTk m i 8 = m 8 := rTk_lo (by decide)
    obtain ⟨o1, o2⟩ := rTk_ok hR hF i (by omega)
    have ht : (i : Int) < rTk m i 4 := by omega
    have hp : rPin (rTk m i) (m 6).toNat (m 7).toNat i = rPin m (m 6).toNat (m 7).toNat i := by
      unfold rPin
      have h1 := hR.u
      rw [rTk_mid (by omega) (by omega) (by omega)]
    have hpin := hB.pin (u := m 6) (s := m 7) (t := i) (by omega) (by omega) ht
    have htb := hB.tb (u := m 6) (t := i) (by omega) (by omega)
    rw [r1] at hpin htb
    obtain ⟨a1, a2, a3, a4, a5⟩ := hB.T ht
    refine v48_9 hs1 hb (bdk (by omega)) (bdk (by omega)) (bdk (by omega)) ?_
    rw [hB.t, hB.u, hB.pu, hB.ps, r1, r4, r6, r7, hpin, hp, Int.toNat_natCast, a1, hB.need ht]
    refine ⟨fun q => by omega, fun _ => ⟨htb, by omega, fun q => ih (i + 1) (by omega) _ hs1 ?_ hO, fun q => ⟨by omega, by omega, c46 hs1 hB ht (by omega) (fun w2 s2 b2 o2 => ⟨s2, ih (i + 1) (by omega) _ s2 ?_ (hO.tr o2)⟩)⟩⟩⟩
    · rw [show rTk m (i + 1) = rTk m i from if_neg q]
      exact hB
    · rw [show rTk m (i + 1) = rPluck (rTk m i) i from if_pos q]
      exact b2
theorem l48_2 {w : PW} {Q : PO → PW → Prop} {b n : Nat} {m : Row} (hs : Sh w) (hb : bx b) (hR : RowOK m) (hF : m 9 ≤ 12 * m 8) (h8 : m 8 + n ≤ 100200) (hn : n ≤ 1000) (h : ∀ w2, Sh w2 → BR w2 b (rRun m n) → OB b w w2 → Q (.inl none) w2) : ∀ k i : Nat, i + k = n → ∀ w', Sh w' → BR w' b (rRun m i) → OB b w w' → ∀ o3 : Option Value, pc2 o3 = false → pX 48 2 [some (.ref b), some (iv (n : Nat)), some (iv (i : Nat)), o3] [] w' Q := by
  intro k
  induction k with
  | zero =>
    intro i hi w' hs1 hB hO o3 ho
    refine v48_2 hs1 hb (bdk (by omega)) (bdk (by omega)) ho ⟨fun _ => ?_, fun q => by omega⟩
    rw [show i = n from by omega] at hB
    exact h w' hs1 hB hO
  | succ k ih =>
    intro i hi w' hs1 hB hO o3 ho
    obtain ⟨i1, i2, i3⟩ := rRun_ok hR hF i (by omega)
    refine v48_2 hs1 hb (bdk (by omega)) (bdk (by omega)) ho ⟨fun q => by omega, fun _ => ?_⟩
    exact l48_9 hs1 hb i1 i2 (by omega) hn (by omega) (fun w2 s2 b2 o2 => ih (i + 1) (by omega) w2 s2 b2 (hO.tr o2) _ rfl) _ 0 (Nat.zero_add _) w' hs1 hB OB.rf
theorem c48 {w : PW} {Q : PO → PW → Prop} {b n : Nat} {m : Row} (hs : Sh w) (hB : BR w b m) (hF : m 9 ≤ 12 * m 8) (h8 : m 8 + n ≤ 100200) (hn : n ≤ 1000) (h : ∀ w2, Sh w2 → BR w2 b (rRun m n) → OB b w w2 → Q (.inl none) w2) : pC 48 [.ref b, iv (n : Nat)] w Q :=
  e48 hs hB.bx (bdk (by omega)) (l48_2 hs hB.bx hB.ok hF h8 hn h n 0 (by omega) w hs hB OB.rf none rfl)

