/-! THE SEARCH: what fits, what is laid and lifted: the class -/
theorem cnt_ex {P : Nat → Bool} {n : Nat} : 0 < cnt P n ↔ ∃ i, i < n ∧ P i = true := by
  constructor
  · intro h
    induction n with
    | zero => exact absurd h (Nat.lt_irrefl 0)
    | succ n ih =>
      by_cases q : P n = true
      · exact ⟨n, by omega, q⟩
      · rw [cnt_f (Bool.eq_false_iff.mpr q)] at h
        obtain ⟨i, h1, h2⟩ := ih h
        exact ⟨i, by omega, h2⟩
  · intro ⟨i, h1, h2⟩
    exact cnt_pos h1 h2
theorem sLaid_iff {m : Row} {u : Int} {ch : Nat → Int} {d j s : Nat} : sLaid m u ch d j s = true ↔ ∃ k, k < d ∧ m 1 * ch k + u = (j : Int) ∧ sStp m u k = (s : Int) := by
  unfold sLaid
  rw [decide_eq_true_eq, cnt_ex]
  constructor
  · intro ⟨k, h1, h2⟩
    rw [Bool.and_eq_true, decide_eq_true_eq, decide_eq_true_eq] at h2
    exact ⟨k, h1, h2.1, h2.2⟩
  · intro ⟨k, h1, h2, h3⟩
    exact ⟨k, h1, by rw [decide_eq_true h2, decide_eq_true h3]; rfl⟩
section FITS
variable {w : PW} {c u d t : Nat} {m : Row} {ch : Nat → Int}
theorem mulU {m : Row} (h : RowOK m) {a b : Int} (he : m 1 * a = m 1 * b) : a = b := by
  have h1 := h.u
  exact Int.eq_of_mul_eq_mul_left (by omega) he
theorem trk_mod (h : RowOK m) (hu : (u : Int) < m 1) {t : Nat} : ((m 1).toNat * t + u) % (m 1).toNat = u ∧ ((m 1).toNat * t + u) / (m 1).toNat = t := by
  have h1 := h.u
  have huU : u < (m 1).toNat := by omega
  rw [Nat.mul_add_mod, Nat.mod_eq_of_lt huU, Nat.mul_add_div (by omega), Nat.div_eq_of_lt huU]
  exact ⟨rfl, rfl⟩
theorem trk_UT (h : RowOK m) (hu : (u : Int) < m 1) {t : Nat} (ht : (t : Int) < m 4) : (m 1).toNat * t + u < (m 1).toNat * (m 4).toNat := by
  have h1 := h.u
  have : (m 1).toNat * (t + 1) ≤ (m 1).toNat * (m 4).toNat := Nat.mul_le_mul_left _ (by omega)
  rw [Nat.mul_add, Nat.mul_one] at this
  omega
theorem trk_i (h : RowOK m) {t : Nat} : m 1 * (t : Int) + (u : Int) = (((m 1).toNat * t + u : Nat) : Int) := by
  have h1 := h.u
  have e : m 1 = ((m 1).toNat : Int) := by omega
  rw [Int.natCast_add, Int.natCast_mul, ← e]
/-- the sets of a neighbour, and what is near -/
theorem side (hR : RowOK m) (hu : (u : Int) < m 1) (hT : TrS w m u ch d) (hch : ChOK m u ch d) (hd : d ≤ ordR m u) {x sd : Int} (hsd : 0 ≤ sd ∧ sd < m 0) : lT w x &&& lNear sd (m 2) (m 0) = 0 ↔ (∀ k, k < d → m 1 * ch k + u = x → nearI (m 0) sd (sStp m u k) (m 2) = false) ∧ sStr m u x sd = false := by
  have h0 := hR.s
  have h1 := hR.u
  have h2 := hR.g
  have h4 := hR.t
  obtain ⟨a, rfl⟩ : ∃ a : Nat, sd = a := ⟨sd.toNat, by omega⟩
  obtain ⟨S, hS⟩ : ∃ S : Nat, m 0 = S := ⟨(m 0).toNat, by omega⟩
  have hN : ∀ z, z < 64 → tL (lNear (a : Int) (m 2) (m 0)) z = (decide (z < S) && nearI (m 0) a z (m 2)) := by
    intro z hz
    rw [hS]
    exact lNear_bits (by omega) (by omega) (by omega) hz
  have hchb : ∀ k, k < d → ∃ t : Nat, ch k = t ∧ (t : Int) < m 4 := fun k hk => ⟨(ch k).toNat, by have := hch.1 k hk; omega, by have := hch.1 k hk; omega⟩
  by_cases hx : 0 ≤ x ∧ x < 36
  · obtain ⟨j, rfl⟩ : ∃ j : Nat, x = j := ⟨x.toNat, by omega⟩
    rw [lT_in (by omega), and_zero]
    have hmod : (j : Int) % m 1 = ((j % (m 1).toNat : Nat) : Int) := by
      rw [Int.natCast_emod]
      congr 1
      omega
    by_cases q : j % (m 1).toNat = u ∧ j < (m 1).toNat * (m 4).toNat
    · have e2 : sStr m u (j : Int) (a : Int) = false := by
        unfold sStr
        rw [hmod, q.1, decide_eq_false (p := (u : Int) ≠ u) (fun z => z rfl), Bool.false_and, Bool.and_false]
      rw [e2]
      constructor
      · intro h
        refine ⟨fun k hk he => ?_, rfl⟩
        have hb := sStp_bd hR (u := (u : Int)) (k := k) (by omega)
        obtain ⟨r, hr⟩ : ∃ r : Nat, sStp m u k = r := ⟨(sStp m u k).toNat, by omega⟩
        have := h r (by omega) (by rw [hT j r (by omega) (by omega), if_pos q, sLaid_iff]; exact ⟨k, hk, he, hr⟩)
        rw [hN r (by omega), decide_eq_true (by omega), Bool.true_and] at this
        rw [hr]
        exact this
      · intro h s hs hb
        rw [hT j s (by omega) hs, if_pos q, sLaid_iff] at hb
        obtain ⟨k, hk, he, hr⟩ := hb
        have := h.1 k hk he
        rw [hr] at this
        rw [hN s hs, this, Bool.and_false]
    · have hno : ∀ k, k < d → m 1 * ch k + u = (j : Int) → False := by
        intro k hk he
        obtain ⟨t, ht, ht2⟩ := hchb k hk
        rw [ht, trk_i hR] at he
        have he2 : (m 1).toNat * t + u = j := by omega
        have := trk_UT hR hu ht2
        have h3 := (trk_mod hR hu (t := t)).1
        rw [he2] at this h3
        exact q ⟨h3, this⟩
      have e2 : sStr m u (j : Int) (a : Int) = true ↔ ∃ r, r < S ∧ (rTr m j r && nearI (m 0) a r (m 2)) = true := by
        unfold sStr
        rw [decide_eq_true (show (0 : Int) ≤ j by omega), Bool.true_and, Int.toNat_natCast, Bool.and_eq_true, decide_eq_true_eq, decide_eq_true_eq, cnt_ex, hS]
        rw [show ((S : Int)).toNat = S from Int.toNat_natCast S]
        constructor
        · exact fun z => z.2
        · intro ⟨r, h1', h2'⟩
          refine ⟨fun z => ?_, r, h1', h2'⟩
          rw [hmod] at z
          have hz : j % (m 1).toNat = u := by omega
          rw [Bool.and_eq_true] at h2'
          have hr := h2'.1
          rw [rTr_no (j := j) (Or.inl (by
            rcases Nat.lt_or_ge j ((m 1).toNat * (m 4).toNat) with q5 | q5
            · exact absurd ⟨hz, q5⟩ q
            · exact q5))] at hr
          cases hr
      constructor
      · intro h
        refine ⟨fun k hk he => absurd he (fun z => hno k hk z), ?_⟩
        cases q5 : sStr m u (j : Int) (a : Int) with
        | false => rfl
        | true =>
          obtain ⟨r, h1', h2'⟩ := e2.mp q5
          rw [Bool.and_eq_true] at h2'
          have := h r (by omega) (by rw [hT j r (by omega) (by omega), if_neg q]; exact h2'.1)
          rw [hN r (by omega), decide_eq_true h1', Bool.true_and, h2'.2] at this
          cases this
      · intro h s hs hb
        rw [hT j s (by omega) hs, if_neg q] at hb
        rw [hN s hs]
        by_cases q6 : s < S
        · rw [decide_eq_true q6, Bool.true_and]
          cases q7 : nearI (m 0) a s (m 2) with
          | false => rfl
          | true =>
            have := e2.mpr ⟨s, q6, by rw [hb, q7]; rfl⟩
            rw [h.2] at this
            cases this
        · rw [decide_eq_false q6, Bool.false_and]
  · rw [lT_out (by omega)]
    constructor
    · intro _
      refine ⟨fun k hk he => ?_, ?_⟩
      · exfalso
        obtain ⟨t, ht, ht2⟩ := hchb k hk
        have hlt := trk_lt hR hu (show t < 12 by omega)
        rw [ht, trk_i hR] at he
        omega
      · unfold sStr
        by_cases q : 0 ≤ x
        · rw [decide_eq_false (p := 0 < cnt (fun r => rTr m x.toNat r && nearI (m 0) (a : Int) r (m 2)) (m 0).toNat), Bool.and_false, Bool.and_false]
          rw [cnt_zero (fun r _ => by rw [rTr_no (j := x.toNat) (Or.inl (by have := (UT_le hR).1; omega)), Bool.false_and])]
          exact Nat.lt_irrefl 0
        · rw [decide_eq_false q, Bool.false_and]
    · intro _
      rw [and_zero]
      intro s _ hb
      rw [tL_0] at hb
      cases hb
theorem own (hR : RowOK m) (hu : (u : Int) < m 1) (hT : TrS w m u ch d) (hd : d ≤ ordR m u) (ht : (t : Int) < m 4) {sd n : Int} (hsd : 0 ≤ sd ∧ sd < m 0) (hn : n ≤ 48) : lT w (m 1 * (t : Int) + u) &&& lNear sd n (m 0) = 0 ↔ ∀ k, k < d → ch k = (t : Int) → nearI (m 0) sd (sStp m u k) n = false := by
  have h0 := hR.s
  have h4 := hR.t
  have hlt := trk_lt hR hu (show t < 12 by omega)
  obtain ⟨a, rfl⟩ : ∃ a : Nat, sd = a := ⟨sd.toNat, by omega⟩
  obtain ⟨S, hS⟩ : ∃ S : Nat, m 0 = S := ⟨(m 0).toNat, by omega⟩
  have hN : ∀ z, z < 64 → tL (lNear (a : Int) n (m 0)) z = (decide (z < S) && nearI (m 0) a z n) := by
    intro z hz
    rw [hS]
    exact lNear_bits (by omega) (by omega) hn hz
  have q : ((m 1).toNat * t + u) % (m 1).toNat = u ∧ (m 1).toNat * t + u < (m 1).toNat * (m 4).toNat := ⟨(trk_mod hR hu).1, trk_UT hR hu ht⟩
  rw [trk_i hR, lT_in hlt.1, and_zero]
  constructor
  · intro h k hk he
    have hb := sStp_bd hR (u := (u : Int)) (k := k) (by omega)
    obtain ⟨r, hr⟩ : ∃ r : Nat, sStp m u k = r := ⟨(sStp m u k).toNat, by omega⟩
    have := h r (by omega) (by rw [hT _ r hlt.1 (by omega), if_pos q, sLaid_iff]; exact ⟨k, hk, by rw [he]; exact trk_i hR, hr⟩)
    rw [hN r (by omega), decide_eq_true (by omega), Bool.true_and] at this
    rw [hr]
    exact this
  · intro h s hs hb
    rw [hT _ s hlt.1 hs, if_pos q, sLaid_iff] at hb
    obtain ⟨k, hk, he, hr⟩ := hb
    rw [← trk_i hR] at he
    have := h k hk (mulU hR (by omega))
    rw [hr] at this
    rw [hN s hs, this, Bool.and_false]
theorem sFit_iff (hR : RowOK m) : sFit m u ch d t = true ↔ sNeed m t ≤ m 0 ∧ (∀ k, k < d → ch k = (t : Int) → nearI (m 0) (sStp m u d) (sStp m u k) (sNeed m t) = false) ∧ ((∀ k, k < d → m 1 * ch k + u = m 1 * (t : Int) + u - 1 → nearI (m 0) (sStp m u d) (sStp m u k) (m 2) = false) ∧ sStr m u (m 1 * (t : Int) + u - 1) (sStp m u d) = false) ∧ ((∀ k, k < d → m 1 * ch k + u = m 1 * (t : Int) + u + 1 → nearI (m 0) (sStp m u d) (sStp m u k) (m 2) = false) ∧ sStr m u (m 1 * (t : Int) + u + 1) (sStp m u d) = false) := by
  unfold sFit
  simp only [Bool.and_eq_true, decide_eq_true_eq, Bool.not_eq_true']
  constructor
  · intro ⟨h1, h2, h3, h4⟩
    have hb : ∀ k, k < d → sBad m u ch d t k = false := fun k hk => by
      cases q : sBad m u ch d t k with
      | false => rfl
      | true => have := cnt_pos hk q; omega
    refine ⟨h1, fun k hk he => ?_, ⟨fun k hk he => ?_, h3⟩, ⟨fun k hk he => ?_, h4⟩⟩
    · have := hb k hk
      unfold sBad at this
      rw [decide_eq_true he, Bool.true_and, Bool.or_eq_false_iff] at this
      exact this.1
    · have := hb k hk
      unfold sBad at this
      rw [decide_eq_true (p := m 1 * ch k = m 1 * (t : Int) + 1 ∨ m 1 * ch k = m 1 * (t : Int) - 1) (by omega), Bool.true_and, Bool.or_eq_false_iff] at this
      exact this.2
    · have := hb k hk
      unfold sBad at this
      rw [decide_eq_true (p := m 1 * ch k = m 1 * (t : Int) + 1 ∨ m 1 * ch k = m 1 * (t : Int) - 1) (by omega), Bool.true_and, Bool.or_eq_false_iff] at this
      exact this.2
  · intro ⟨h1, h2, ⟨h3, h4⟩, h5, h6⟩
    refine ⟨h1, cnt_zero (fun k hk => ?_), h4, h6⟩
    unfold sBad
    rw [Bool.or_eq_false_iff]
    refine ⟨?_, ?_⟩
    · by_cases q : ch k = (t : Int)
      · rw [h2 k hk q, Bool.and_false]
      · rw [decide_eq_false q, Bool.false_and]
    · by_cases q : m 1 * ch k = m 1 * (t : Int) + 1 ∨ m 1 * ch k = m 1 * (t : Int) - 1
      · rw [decide_eq_true q, Bool.true_and]
        rcases q with q | q
        · exact h5 k hk (by omega)
        · exact h3 k hk (by omega)
      · rw [decide_eq_false q, Bool.false_and]
theorem or_and_zero {A B N : Int64} : (A ||| B) &&& N = 0 ↔ A &&& N = 0 ∧ B &&& N = 0 := by
  rw [and_zero, and_zero, and_zero]
  constructor
  · intro h
    exact ⟨fun s hs ha => h s hs (by rw [tL_or, ha, Bool.true_or]), fun s hs hb => h s hs (by rw [tL_or, hb, Bool.or_true])⟩
  · intro ⟨h1, h2⟩ s hs hab
    rw [tL_or, Bool.or_eq_true] at hab
    exact hab.elim (h1 s hs) (h2 s hs)
end FITS
/-! 122: PinBarrel$Search.fits(LPinBarrel$Box;II)Z -/
theorem b122 : mB 122 = cX6_fits := rfl
theorem r122 : mR 122 = (some .boolean) := rfl
theorem p122 (a b : Nat) : phi 122 a ≤ phi 122 b := Nat.le_refl 0
theorem d122_0 : decode cX6_fits 0 = .ok (.aload_n 1, 1) := by decide +kernel
theorem d122_1 : decode cX6_fits 1 = .ok (.iload_n 3, 1) := by decide +kernel
theorem d122_2 : decode cX6_fits 2 = .ok (.invokevirtual 98, 3) := by decide +kernel
theorem d122_5 : decode cX6_fits 5 = .ok (.istore 4, 2) := by decide +kernel
theorem d122_7 : decode cX6_fits 7 = .ok (.aload_n 1, 1) := by decide +kernel
theorem d122_8 : decode cX6_fits 8 = .ok (.getfield 36, 3) := by decide +kernel
theorem d122_11 : decode cX6_fits 11 = .ok (.getfield 94, 3) := by decide +kernel
theorem d122_14 : decode cX6_fits 14 = .ok (.iload_n 2, 1) := by decide +kernel
theorem d122_15 : decode cX6_fits 15 = .ok (.iaload, 1) := by decide +kernel
theorem d122_16 : decode cX6_fits 16 = .ok (.istore 5, 2) := by decide +kernel
theorem d122_18 : decode cX6_fits 18 = .ok (.aload_n 1, 1) := by decide +kernel
theorem d122_19 : decode cX6_fits 19 = .ok (.aload_n 1, 1) := by decide +kernel
theorem d122_20 : decode cX6_fits 20 = .ok (.getfield 36, 3) := by decide +kernel
theorem d122_23 : decode cX6_fits 23 = .ok (.getfield 83, 3) := by decide +kernel
theorem d122_26 : decode cX6_fits 26 = .ok (.iload_n 2, 1) := by decide +kernel
theorem d122_27 : decode cX6_fits 27 = .ok (.iaload, 1) := by decide +kernel
theorem d122_28 : decode cX6_fits 28 = .ok (.iload_n 3, 1) := by decide +kernel
theorem d122_29 : decode cX6_fits 29 = .ok (.invokevirtual 74, 3) := by decide +kernel
theorem d122_32 : decode cX6_fits 32 = .ok (.istore 6, 2) := by decide +kernel
theorem d122_34 : decode cX6_fits 34 = .ok (.iload 4, 2) := by decide +kernel
theorem d122_36 : decode cX6_fits 36 = .ok (.aload_n 1, 1) := by decide +kernel
theorem d122_37 : decode cX6_fits 37 = .ok (.getfield 102, 3) := by decide +kernel
theorem d122_40 : decode cX6_fits 40 = .ok (.if_icmp .gt 26, 3) := by decide +kernel
theorem d122_43 : decode cX6_fits 43 = .ok (.aload_n 0, 1) := by decide +kernel
theorem d122_44 : decode cX6_fits 44 = .ok (.iload 6, 2) := by decide +kernel
theorem d122_46 : decode cX6_fits 46 = .ok (.invokevirtual 105, 3) := by decide +kernel
theorem d122_49 : decode cX6_fits 49 = .ok (.iload 5, 2) := by decide +kernel
theorem d122_51 : decode cX6_fits 51 = .ok (.iload 4, 2) := by decide +kernel
theorem d122_53 : decode cX6_fits 53 = .ok (.aload_n 1, 1) := by decide +kernel
theorem d122_54 : decode cX6_fits 54 = .ok (.getfield 102, 3) := by decide +kernel
theorem d122_57 : decode cX6_fits 57 = .ok (.invokestatic 109, 3) := by decide +kernel
theorem d122_60 : decode cX6_fits 60 = .ok (.land, 1) := by decide +kernel
theorem d122_61 : decode cX6_fits 61 = .ok (.lconst 0, 1) := by decide +kernel
theorem d122_62 : decode cX6_fits 62 = .ok (.lcmp, 1) := by decide +kernel
theorem d122_63 : decode cX6_fits 63 = .ok (.ifCond .eq 5, 3) := by decide +kernel
theorem d122_66 : decode cX6_fits 66 = .ok (.iconst 0, 1) := by decide +kernel
theorem d122_67 : decode cX6_fits 67 = .ok (.ireturn, 1) := by decide +kernel
theorem d122_68 : decode cX6_fits 68 = .ok (.aload_n 0, 1) := by decide +kernel
theorem d122_69 : decode cX6_fits 69 = .ok (.iload 6, 2) := by decide +kernel
theorem d122_71 : decode cX6_fits 71 = .ok (.iconst 1, 1) := by decide +kernel
theorem d122_72 : decode cX6_fits 72 = .ok (.isub, 1) := by decide +kernel
theorem d122_73 : decode cX6_fits 73 = .ok (.invokevirtual 105, 3) := by decide +kernel
theorem d122_76 : decode cX6_fits 76 = .ok (.aload_n 0, 1) := by decide +kernel
theorem d122_77 : decode cX6_fits 77 = .ok (.iload 6, 2) := by decide +kernel
theorem d122_79 : decode cX6_fits 79 = .ok (.iconst 1, 1) := by decide +kernel
theorem d122_80 : decode cX6_fits 80 = .ok (.iadd, 1) := by decide +kernel
theorem d122_81 : decode cX6_fits 81 = .ok (.invokevirtual 105, 3) := by decide +kernel
theorem d122_84 : decode cX6_fits 84 = .ok (.lor, 1) := by decide +kernel
theorem d122_85 : decode cX6_fits 85 = .ok (.lstore 7, 2) := by decide +kernel
theorem d122_87 : decode cX6_fits 87 = .ok (.lload 7, 2) := by decide +kernel
theorem d122_89 : decode cX6_fits 89 = .ok (.iload 5, 2) := by decide +kernel
theorem d122_91 : decode cX6_fits 91 = .ok (.aload_n 1, 1) := by decide +kernel
theorem d122_92 : decode cX6_fits 92 = .ok (.getfield 115, 3) := by decide +kernel
theorem d122_95 : decode cX6_fits 95 = .ok (.aload_n 1, 1) := by decide +kernel
theorem d122_96 : decode cX6_fits 96 = .ok (.getfield 102, 3) := by decide +kernel
theorem d122_99 : decode cX6_fits 99 = .ok (.invokestatic 109, 3) := by decide +kernel
theorem d122_102 : decode cX6_fits 102 = .ok (.land, 1) := by decide +kernel
theorem d122_103 : decode cX6_fits 103 = .ok (.lconst 0, 1) := by decide +kernel
theorem d122_104 : decode cX6_fits 104 = .ok (.lcmp, 1) := by decide +kernel
theorem d122_105 : decode cX6_fits 105 = .ok (.ifCond .ne 7, 3) := by decide +kernel
theorem d122_108 : decode cX6_fits 108 = .ok (.iconst 1, 1) := by decide +kernel
theorem d122_109 : decode cX6_fits 109 = .ok (.goto 4, 3) := by decide +kernel
theorem d122_112 : decode cX6_fits 112 = .ok (.iconst 0, 1) := by decide +kernel
theorem d122_113 : decode cX6_fits 113 = .ok (.ireturn, 1) := by decide +kernel
theorem v122_0 {w : PW} {Q : PO → PW → Prop} {c : Nat} {x2 : Int} {x3 : Int} (hs : Sh w) (hc : bx c) (hx2 : bd x2) (hx3 : bd x3) (h : (0 ≤ x3 ∧ x3 < 12) ∧ (0 ≤ x2 ∧ x2 < 60) ∧ (0 ≤ x2 ∧ x2 < 60) ∧ (bd ((gI w (c + 2) (x3).toNat) * (gI w c 3))) ∧ ((gI w c 0) < ((gI w (c + 2) (x3).toNat) * (gI w c 3)) → Q (.inl (some (iv 0))) w) ∧ (((gI w (c + 2) (x3).toNat) * (gI w c 3)) ≤ (gI w c 0) → (bd ((gI w c 1) * x3 + (gI w (c + 5) x2.toNat))) ∧ (bd ((gI w (c + 2) (x3).toNat) * (gI w c 3))) ∧ (bd ((gI w c 0) - ((gI w (c + 2) (x3).toNat) * (gI w c 3)) + 1)) ∧ (bd ((gI w c 0) - (gI w (c + 6) x2.toNat))) ∧ (bd ((gI w c 0) - ((gI w c 0) - ((gI w (c + 2) (x3).toNat) * (gI w c 3)) + 1))) ∧ ((lCmp ((lT w ((gI w c 1) * x3 + (gI w (c + 5) x2.toNat))) &&& (lNear (gI w (c + 6) x2.toNat) ((gI w (c + 2) (x3).toNat) * (gI w c 3)) (gI w c 0))) ((0 : Int64))) = 0 → (bd (((gI w c 1) * x3 + (gI w (c + 5) x2.toNat)) - 1)) ∧ (bd (((gI w c 1) * x3 + (gI w (c + 5) x2.toNat)) + 1)) ∧ (bd ((gI w c 0) - (gI w c 2) + 1)) ∧ (bd ((gI w c 0) - (gI w (c + 6) x2.toNat))) ∧ (bd ((gI w c 0) - ((gI w c 0) - (gI w c 2) + 1))) ∧ ((lCmp (((lT w (((gI w c 1) * x3 + (gI w (c + 5) x2.toNat)) - 1)) ||| (lT w (((gI w c 1) * x3 + (gI w (c + 5) x2.toNat)) + 1))) &&& (lNear (gI w (c + 6) x2.toNat) (gI w c 2) (gI w c 0))) ((0 : Int64))) ≠ 0 → Q (.inl (some (iv 0))) w) ∧ ((lCmp (((lT w (((gI w c 1) * x3 + (gI w (c + 5) x2.toNat)) - 1)) ||| (lT w (((gI w c 1) * x3 + (gI w (c + 5) x2.toNat)) + 1))) &&& (lNear (gI w (c + 6) x2.toNat) (gI w c 2) (gI w c 0))) ((0 : Int64))) = 0 → Q (.inl (some (iv 1))) w)) ∧ ((lCmp ((lT w ((gI w c 1) * x3 + (gI w (c + 5) x2.toNat))) &&& (lNear (gI w (c + 6) x2.toNat) ((gI w (c + 2) (x3).toNat) * (gI w c 3)) (gI w c 0))) ((0 : Int64))) ≠ 0 → Q (.inl (some (iv 0))) w))) : pX 122 0 [some (.ref 139), some (.ref c), some (iv x2), some (iv x3), none, none, none, none, none] [] w Q :=
  w_f b122 d122_0 rfl rfl rfl <| w_f b122 d122_1 rfl rfl rfl <| w_cc b122 d122_2 rfl (pcl_v (n := 1) rfl rfl rfl (by decide +kernel) (sh_isOb hs (bx00 hc) (tb0 hc)) rfl rfl) rfl <| c44 hs hc hx3 h.1 <| w_f b122 d122_5 rfl rfl rfl <| w_f b122 d122_7 rfl rfl rfl <| w_gr b122 d122_8 rfl rfl hs (bx00 hc) (tb0 hc) rfl (bxr hc 4 rfl) <| w_gr b122 d122_11 rfl rfl hs (bxk hc 4 rfl) (tb4 hc) rfl (bxr hc 6 rfl) <| w_f b122 d122_14 rfl rfl rfl <| w_ial b122 d122_15 rfl hs (bxk hc 6 rfl) (tb6 hc) (bdix (n := 60) h.2.1 rfl) h.2.1 <| w_f b122 d122_16 rfl rfl rfl <| w_f b122 d122_18 rfl rfl rfl <| w_f b122 d122_19 rfl rfl rfl <| w_gr b122 d122_20 rfl rfl hs (bx00 hc) (tb0 hc) rfl (bxr hc 4 rfl) <| w_gr b122 d122_23 rfl rfl hs (bxk hc 4 rfl) (tb4 hc) rfl (bxr hc 5 rfl) <| w_f b122 d122_26 rfl rfl rfl <| w_ial b122 d122_27 rfl hs (bxk hc 5 rfl) (tb5 hc) (bdix (n := 60) h.2.2.1 rfl) h.2.2.1 <| w_f b122 d122_28 rfl rfl rfl <| w_cc b122 d122_29 rfl (pcl_v (n := 2) rfl rfl rfl (by decide +kernel) (sh_isOb hs (bx00 hc) (tb0 hc)) rfl rfl) rfl <| c28 hs hc (bd_gI _ _ _) hx3 <| w_f b122 d122_32 rfl rfl rfl <| w_f b122 d122_34 rfl rfl rfl <| w_f b122 d122_36 rfl rfl rfl <| w_gi b122 d122_37 rfl rfl hs (bx00 hc) (tb0 hc) rfl <| w_icgt b122 d122_40 rfl rfl (p122 _ _) h.2.2.2.1 (bd_gI _ _ _) (fun c1 => w_f b122 d122_66 rfl rfl rfl <| w_rz b122 d122_67 r122 (by decide) (h.2.2.2.2.1 c1)) (fun c1 => w_f b122 d122_43 rfl rfl rfl <| w_f b122 d122_44 rfl rfl rfl <| w_cc b122 d122_46 rfl (pcl_v (n := 1) rfl rfl rfl (by decide +kernel) (sh_isOb hs (tlt 139 rfl) tbC_139) rfl rfl) rfl <| c120 hs (h.2.2.2.2.2 c1).1 <| w_f b122 d122_49 rfl rfl rfl <| w_f b122 d122_51 rfl rfl rfl <| w_f b122 d122_53 rfl rfl rfl <| w_gi b122 d122_54 rfl rfl hs (bx00 hc) (tb0 hc) rfl <| w_cc b122 d122_57 rfl (pcl_s1 (n := 3) rfl rfl rfl (by decide +kernel) rfl rfl) rfl <| c99 hs (bd_gI _ _ _) (h.2.2.2.2.2 c1).2.1 (bd_gI _ _ _) (h.2.2.2.2.2 c1).2.2.1 (h.2.2.2.2.2 c1).2.2.2.1 (h.2.2.2.2.2 c1).2.2.2.2.1 <| w_f b122 d122_60 rfl rfl rfl <| w_f b122 d122_61 rfl rfl rfl <| w_f b122 d122_62 rfl (pf_lcmp _ _) rfl <| w_ifeq b122 d122_63 rfl rfl (p122 _ _) (bd_toInt _) (fun c2 => w_f b122 d122_68 rfl rfl rfl <| w_f b122 d122_69 rfl rfl rfl <| w_f b122 d122_71 rfl rfl rfl <| w_f b122 d122_72 rfl (pf_isub ((gI w c 1) * x3 + (gI w (c + 5) x2.toNat)) 1) rfl <| w_cc b122 d122_73 rfl (pcl_v (n := 1) rfl rfl rfl (by decide +kernel) (sh_isOb hs (tlt 139 rfl) tbC_139) rfl rfl) rfl <| c120 hs ((h.2.2.2.2.2 c1).2.2.2.2.2.1 c2).1 <| w_f b122 d122_76 rfl rfl rfl <| w_f b122 d122_77 rfl rfl rfl <| w_f b122 d122_79 rfl rfl rfl <| w_f b122 d122_80 rfl (pf_iadd ((gI w c 1) * x3 + (gI w (c + 5) x2.toNat)) 1) rfl <| w_cc b122 d122_81 rfl (pcl_v (n := 1) rfl rfl rfl (by decide +kernel) (sh_isOb hs (tlt 139 rfl) tbC_139) rfl rfl) rfl <| c120 hs ((h.2.2.2.2.2 c1).2.2.2.2.2.1 c2).2.1 <| w_f b122 d122_84 rfl rfl rfl <| w_f b122 d122_85 rfl rfl rfl <| w_f b122 d122_87 rfl rfl rfl <| w_f b122 d122_89 rfl rfl rfl <| w_f b122 d122_91 rfl rfl rfl <| w_gi b122 d122_92 rfl rfl hs (bx00 hc) (tb0 hc) rfl <| w_f b122 d122_95 rfl rfl rfl <| w_gi b122 d122_96 rfl rfl hs (bx00 hc) (tb0 hc) rfl <| w_cc b122 d122_99 rfl (pcl_s1 (n := 3) rfl rfl rfl (by decide +kernel) rfl rfl) rfl <| c99 hs (bd_gI _ _ _) (bd_gI _ _ _) (bd_gI _ _ _) ((h.2.2.2.2.2 c1).2.2.2.2.2.1 c2).2.2.1 ((h.2.2.2.2.2 c1).2.2.2.2.2.1 c2).2.2.2.1 ((h.2.2.2.2.2 c1).2.2.2.2.2.1 c2).2.2.2.2.1 <| w_f b122 d122_102 rfl rfl rfl <| w_f b122 d122_103 rfl rfl rfl <| w_f b122 d122_104 rfl (pf_lcmp _ _) rfl <| w_ifne b122 d122_105 rfl rfl (p122 _ _) (bd_toInt _) (fun c3 => w_f b122 d122_112 rfl rfl rfl <| w_rz b122 d122_113 r122 (by decide) (((h.2.2.2.2.2 c1).2.2.2.2.2.1 c2).2.2.2.2.2.1 c3)) (fun c3 => w_f b122 d122_108 rfl rfl rfl <| w_j b122 d122_109 rfl (p122 _ _) <| w_rz b122 d122_113 r122 (by decide) (((h.2.2.2.2.2 c1).2.2.2.2.2.1 c2).2.2.2.2.2.2 c3))) (fun c2 => w_f b122 d122_66 rfl rfl rfl <| w_rz b122 d122_67 r122 (by decide) ((h.2.2.2.2.2 c1).2.2.2.2.2.2 c2)))
theorem e122 {w : PW} {Q : PO → PW → Prop} {c : Nat} {x2 : Int} {x3 : Int} (hs : Sh w) (hc : bx c) (hx2 : bd x2) (hx3 : bd x3) (h : (0 ≤ x3 ∧ x3 < 12) ∧ (0 ≤ x2 ∧ x2 < 60) ∧ (0 ≤ x2 ∧ x2 < 60) ∧ (bd ((gI w (c + 2) (x3).toNat) * (gI w c 3))) ∧ ((gI w c 0) < ((gI w (c + 2) (x3).toNat) * (gI w c 3)) → Q (.inl (some (iv 0))) w) ∧ (((gI w (c + 2) (x3).toNat) * (gI w c 3)) ≤ (gI w c 0) → (bd ((gI w c 1) * x3 + (gI w (c + 5) x2.toNat))) ∧ (bd ((gI w (c + 2) (x3).toNat) * (gI w c 3))) ∧ (bd ((gI w c 0) - ((gI w (c + 2) (x3).toNat) * (gI w c 3)) + 1)) ∧ (bd ((gI w c 0) - (gI w (c + 6) x2.toNat))) ∧ (bd ((gI w c 0) - ((gI w c 0) - ((gI w (c + 2) (x3).toNat) * (gI w c 3)) + 1))) ∧ ((lCmp ((lT w ((gI w c 1) * x3 + (gI w (c + 5) x2.toNat))) &&& (lNear (gI w (c + 6) x2.toNat) ((gI w (c + 2) (x3).toNat) * (gI w c 3)) (gI w c 0))) ((0 : Int64))) = 0 → (bd (((gI w c 1) * x3 + (gI w (c + 5) x2.toNat)) - 1)) ∧ (bd (((gI w c 1) * x3 + (gI w (c + 5) x2.toNat)) + 1)) ∧ (bd ((gI w c 0) - (gI w c 2) + 1)) ∧ (bd ((gI w c 0) - (gI w (c + 6) x2.toNat))) ∧ (bd ((gI w c 0) - ((gI w c 0) - (gI w c 2) + 1))) ∧ ((lCmp (((lT w (((gI w c 1) * x3 + (gI w (c + 5) x2.toNat)) - 1)) ||| (lT w (((gI w c 1) * x3 + (gI w (c + 5) x2.toNat)) + 1))) &&& (lNear (gI w (c + 6) x2.toNat) (gI w c 2) (gI w c 0))) ((0 : Int64))) ≠ 0 → Q (.inl (some (iv 0))) w) ∧ ((lCmp (((lT w (((gI w c 1) * x3 + (gI w (c + 5) x2.toNat)) - 1)) ||| (lT w (((gI w c 1) * x3 + (gI w (c + 5) x2.toNat)) + 1))) &&& (lNear (gI w (c + 6) x2.toNat) (gI w c 2) (gI w c 0))) ((0 : Int64))) = 0 → Q (.inl (some (iv 1))) w)) ∧ ((lCmp ((lT w ((gI w c 1) * x3 + (gI w (c + 5) x2.toNat))) &&& (lNear (gI w (c + 6) x2.toNat) ((gI w (c + 2) (x3).toNat) * (gI w c 3)) (gI w c 0))) ((0 : Int64))) ≠ 0 → Q (.inl (some (iv 0))) w))) : pC 122 [.ref 139, .ref c, iv x2, iv x3] w Q :=
  (pC_in (Nat.le_of_ble_eq_true rfl) rfl Q).mpr (v122_0 hs hc hx2 hx3 h)
/-! 121: PinBarrel$Search.lift(LPinBarrel$Box;II)V -/
theorem b121 : mB 121 = cX6_lift := rfl
theorem r121 : mR 121 = none := rfl
theorem p121 (a b : Nat) : phi 121 a ≤ phi 121 b := Nat.le_refl 0
theorem d121_0 : decode cX6_lift 0 = .ok (.aload_n 1, 1) := by decide +kernel
theorem d121_1 : decode cX6_lift 1 = .ok (.aload_n 1, 1) := by decide +kernel
theorem d121_2 : decode cX6_lift 2 = .ok (.getfield 36, 3) := by decide +kernel
theorem d121_5 : decode cX6_lift 5 = .ok (.getfield 83, 3) := by decide +kernel
theorem d121_8 : decode cX6_lift 8 = .ok (.iload_n 2, 1) := by decide +kernel
theorem d121_9 : decode cX6_lift 9 = .ok (.iaload, 1) := by decide +kernel
theorem d121_10 : decode cX6_lift 10 = .ok (.iload_n 3, 1) := by decide +kernel
theorem d121_11 : decode cX6_lift 11 = .ok (.invokevirtual 74, 3) := by decide +kernel
theorem d121_14 : decode cX6_lift 14 = .ok (.istore 4, 2) := by decide +kernel
theorem d121_16 : decode cX6_lift 16 = .ok (.aload_n 0, 1) := by decide +kernel
theorem d121_17 : decode cX6_lift 17 = .ok (.iload 4, 2) := by decide +kernel
theorem d121_19 : decode cX6_lift 19 = .ok (.aload_n 0, 1) := by decide +kernel
theorem d121_20 : decode cX6_lift 20 = .ok (.iload 4, 2) := by decide +kernel
theorem d121_22 : decode cX6_lift 22 = .ok (.invokevirtual 105, 3) := by decide +kernel
theorem d121_25 : decode cX6_lift 25 = .ok (.lconst 1, 1) := by decide +kernel
theorem d121_26 : decode cX6_lift 26 = .ok (.aload_n 1, 1) := by decide +kernel
theorem d121_27 : decode cX6_lift 27 = .ok (.getfield 36, 3) := by decide +kernel
theorem d121_30 : decode cX6_lift 30 = .ok (.getfield 94, 3) := by decide +kernel
theorem d121_33 : decode cX6_lift 33 = .ok (.iload_n 2, 1) := by decide +kernel
theorem d121_34 : decode cX6_lift 34 = .ok (.iaload, 1) := by decide +kernel
theorem d121_35 : decode cX6_lift 35 = .ok (.lshl, 1) := by decide +kernel
theorem d121_36 : decode cX6_lift 36 = .ok (.ldc2_w 118, 3) := by decide +kernel
theorem d121_39 : decode cX6_lift 39 = .ok (.lxor, 1) := by decide +kernel
theorem d121_40 : decode cX6_lift 40 = .ok (.land, 1) := by decide +kernel
theorem d121_41 : decode cX6_lift 41 = .ok (.invokevirtual 78, 3) := by decide +kernel
theorem d121_44 : decode cX6_lift 44 = .ok (.return_, 1) := by decide +kernel
theorem v121_0 {w : PW} {Q : PO → PW → Prop} {c : Nat} {x2 : Int} {x3 : Int} (hs : Sh w) (hc : bx c) (hx2 : bd x2) (hx3 : bd x3) (h : (0 ≤ x2 ∧ x2 < 60) ∧ (bd ((gI w c 1) * x3 + (gI w (c + 5) x2.toNat))) ∧ (0 ≤ x2 ∧ x2 < 60) ∧ (bd ((gI w c 1) * x3 + (gI w (c + 5) x2.toNat))) ∧ (0 ≤ ((gI w c 1) * x3 + (gI w (c + 5) x2.toNat)) ∧ ((gI w c 1) * x3 + (gI w (c + 5) x2.toNat)) < 36) ∧ ∀ w1 : PW, w1 = sL w 142 (((gI w c 1) * x3 + (gI w (c + 5) x2.toNat))).toNat ((lT w ((gI w c 1) * x3 + (gI w (c + 5) x2.toNat))) &&& ((lShl ((1 : Int64)) (gI w (c + 6) x2.toNat)) ^^^ ((-1 : Int64)))) → Q (.inl none) w1) : pX 121 0 [some (.ref 139), some (.ref c), some (iv x2), some (iv x3), none] [] w Q :=
  w_f b121 d121_0 rfl rfl rfl <| w_f b121 d121_1 rfl rfl rfl <| w_gr b121 d121_2 rfl rfl hs (bx00 hc) (tb0 hc) rfl (bxr hc 4 rfl) <| w_gr b121 d121_5 rfl rfl hs (bxk hc 4 rfl) (tb4 hc) rfl (bxr hc 5 rfl) <| w_f b121 d121_8 rfl rfl rfl <| w_ial b121 d121_9 rfl hs (bxk hc 5 rfl) (tb5 hc) (bdix (n := 60) h.1 rfl) h.1 <| w_f b121 d121_10 rfl rfl rfl <| w_cc b121 d121_11 rfl (pcl_v (n := 2) rfl rfl rfl (by decide +kernel) (sh_isOb hs (bx00 hc) (tb0 hc)) rfl rfl) rfl <| c28 hs hc (bd_gI _ _ _) hx3 <| w_f b121 d121_14 rfl rfl rfl <| w_f b121 d121_16 rfl rfl rfl <| w_f b121 d121_17 rfl rfl rfl <| w_f b121 d121_19 rfl rfl rfl <| w_f b121 d121_20 rfl rfl rfl <| w_cc b121 d121_22 rfl (pcl_v (n := 1) rfl rfl rfl (by decide +kernel) (sh_isOb hs (tlt 139 rfl) tbC_139) rfl rfl) rfl <| c120 hs h.2.1 <| w_f b121 d121_25 rfl rfl rfl <| w_f b121 d121_26 rfl rfl rfl <| w_gr b121 d121_27 rfl rfl hs (bx00 hc) (tb0 hc) rfl (bxr hc 4 rfl) <| w_gr b121 d121_30 rfl rfl hs (bxk hc 4 rfl) (tb4 hc) rfl (bxr hc 6 rfl) <| w_f b121 d121_33 rfl rfl rfl <| w_ial b121 d121_34 rfl hs (bxk hc 6 rfl) (tb6 hc) (bdix (n := 60) h.2.2.1 rfl) h.2.2.1 <| w_f b121 d121_35 rfl rfl rfl <| w_ldcL b121 d121_36 rfl rfl <| w_f b121 d121_39 rfl rfl rfl <| w_f b121 d121_40 rfl rfl rfl <| w_cc b121 d121_41 rfl (pcl_v (n := 2) rfl rfl rfl (by decide +kernel) (sh_isOb hs (tlt 139 rfl) tbC_139) rfl rfl) rfl <| c115 hs h.2.2.2.1 h.2.2.2.2.1 <| w_rv b121 d121_44 r121 (h.2.2.2.2.2 _ rfl)
theorem e121 {w : PW} {Q : PO → PW → Prop} {c : Nat} {x2 : Int} {x3 : Int} (hs : Sh w) (hc : bx c) (hx2 : bd x2) (hx3 : bd x3) (h : (0 ≤ x2 ∧ x2 < 60) ∧ (bd ((gI w c 1) * x3 + (gI w (c + 5) x2.toNat))) ∧ (0 ≤ x2 ∧ x2 < 60) ∧ (bd ((gI w c 1) * x3 + (gI w (c + 5) x2.toNat))) ∧ (0 ≤ ((gI w c 1) * x3 + (gI w (c + 5) x2.toNat)) ∧ ((gI w c 1) * x3 + (gI w (c + 5) x2.toNat)) < 36) ∧ ∀ w1 : PW, w1 = sL w 142 (((gI w c 1) * x3 + (gI w (c + 5) x2.toNat))).toNat ((lT w ((gI w c 1) * x3 + (gI w (c + 5) x2.toNat))) &&& ((lShl ((1 : Int64)) (gI w (c + 6) x2.toNat)) ^^^ ((-1 : Int64)))) → Q (.inl none) w1) : pC 121 [.ref 139, .ref c, iv x2, iv x3] w Q :=
  (pC_in (Nat.le_of_ble_eq_true rfl) rfl Q).mpr (v121_0 hs hc hx2 hx3 h)
/-! 123: PinBarrel$Search.put(LPinBarrel$Box;II)V -/
theorem b123 : mB 123 = cX6_put := rfl
theorem r123 : mR 123 = none := rfl
theorem p123 (a b : Nat) : phi 123 a ≤ phi 123 b := Nat.le_refl 0
theorem d123_0 : decode cX6_put 0 = .ok (.aload_n 1, 1) := by decide +kernel
theorem d123_1 : decode cX6_put 1 = .ok (.aload_n 1, 1) := by decide +kernel
theorem d123_2 : decode cX6_put 2 = .ok (.getfield 36, 3) := by decide +kernel
theorem d123_5 : decode cX6_put 5 = .ok (.getfield 83, 3) := by decide +kernel
theorem d123_8 : decode cX6_put 8 = .ok (.iload_n 2, 1) := by decide +kernel
theorem d123_9 : decode cX6_put 9 = .ok (.iaload, 1) := by decide +kernel
theorem d123_10 : decode cX6_put 10 = .ok (.iload_n 3, 1) := by decide +kernel
theorem d123_11 : decode cX6_put 11 = .ok (.invokevirtual 74, 3) := by decide +kernel
theorem d123_14 : decode cX6_put 14 = .ok (.istore 4, 2) := by decide +kernel
theorem d123_16 : decode cX6_put 16 = .ok (.aload_n 0, 1) := by decide +kernel
theorem d123_17 : decode cX6_put 17 = .ok (.iload 4, 2) := by decide +kernel
theorem d123_19 : decode cX6_put 19 = .ok (.aload_n 0, 1) := by decide +kernel
theorem d123_20 : decode cX6_put 20 = .ok (.iload 4, 2) := by decide +kernel
theorem d123_22 : decode cX6_put 22 = .ok (.invokevirtual 105, 3) := by decide +kernel
theorem d123_25 : decode cX6_put 25 = .ok (.lconst 1, 1) := by decide +kernel
theorem d123_26 : decode cX6_put 26 = .ok (.aload_n 1, 1) := by decide +kernel
theorem d123_27 : decode cX6_put 27 = .ok (.getfield 36, 3) := by decide +kernel
theorem d123_30 : decode cX6_put 30 = .ok (.getfield 94, 3) := by decide +kernel
theorem d123_33 : decode cX6_put 33 = .ok (.iload_n 2, 1) := by decide +kernel
theorem d123_34 : decode cX6_put 34 = .ok (.iaload, 1) := by decide +kernel
theorem d123_35 : decode cX6_put 35 = .ok (.lshl, 1) := by decide +kernel
theorem d123_36 : decode cX6_put 36 = .ok (.lor, 1) := by decide +kernel
theorem d123_37 : decode cX6_put 37 = .ok (.invokevirtual 78, 3) := by decide +kernel
theorem d123_40 : decode cX6_put 40 = .ok (.return_, 1) := by decide +kernel
theorem v123_0 {w : PW} {Q : PO → PW → Prop} {c : Nat} {x2 : Int} {x3 : Int} (hs : Sh w) (hc : bx c) (hx2 : bd x2) (hx3 : bd x3) (h : (0 ≤ x2 ∧ x2 < 60) ∧ (bd ((gI w c 1) * x3 + (gI w (c + 5) x2.toNat))) ∧ (0 ≤ x2 ∧ x2 < 60) ∧ (bd ((gI w c 1) * x3 + (gI w (c + 5) x2.toNat))) ∧ (0 ≤ ((gI w c 1) * x3 + (gI w (c + 5) x2.toNat)) ∧ ((gI w c 1) * x3 + (gI w (c + 5) x2.toNat)) < 36) ∧ ∀ w1 : PW, w1 = sL w 142 (((gI w c 1) * x3 + (gI w (c + 5) x2.toNat))).toNat ((lT w ((gI w c 1) * x3 + (gI w (c + 5) x2.toNat))) ||| (lShl ((1 : Int64)) (gI w (c + 6) x2.toNat))) → Q (.inl none) w1) : pX 123 0 [some (.ref 139), some (.ref c), some (iv x2), some (iv x3), none] [] w Q :=
  w_f b123 d123_0 rfl rfl rfl <| w_f b123 d123_1 rfl rfl rfl <| w_gr b123 d123_2 rfl rfl hs (bx00 hc) (tb0 hc) rfl (bxr hc 4 rfl) <| w_gr b123 d123_5 rfl rfl hs (bxk hc 4 rfl) (tb4 hc) rfl (bxr hc 5 rfl) <| w_f b123 d123_8 rfl rfl rfl <| w_ial b123 d123_9 rfl hs (bxk hc 5 rfl) (tb5 hc) (bdix (n := 60) h.1 rfl) h.1 <| w_f b123 d123_10 rfl rfl rfl <| w_cc b123 d123_11 rfl (pcl_v (n := 2) rfl rfl rfl (by decide +kernel) (sh_isOb hs (bx00 hc) (tb0 hc)) rfl rfl) rfl <| c28 hs hc (bd_gI _ _ _) hx3 <| w_f b123 d123_14 rfl rfl rfl <| w_f b123 d123_16 rfl rfl rfl <| w_f b123 d123_17 rfl rfl rfl <| w_f b123 d123_19 rfl rfl rfl <| w_f b123 d123_20 rfl rfl rfl <| w_cc b123 d123_22 rfl (pcl_v (n := 1) rfl rfl rfl (by decide +kernel) (sh_isOb hs (tlt 139 rfl) tbC_139) rfl rfl) rfl <| c120 hs h.2.1 <| w_f b123 d123_25 rfl rfl rfl <| w_f b123 d123_26 rfl rfl rfl <| w_gr b123 d123_27 rfl rfl hs (bx00 hc) (tb0 hc) rfl (bxr hc 4 rfl) <| w_gr b123 d123_30 rfl rfl hs (bxk hc 4 rfl) (tb4 hc) rfl (bxr hc 6 rfl) <| w_f b123 d123_33 rfl rfl rfl <| w_ial b123 d123_34 rfl hs (bxk hc 6 rfl) (tb6 hc) (bdix (n := 60) h.2.2.1 rfl) h.2.2.1 <| w_f b123 d123_35 rfl rfl rfl <| w_f b123 d123_36 rfl rfl rfl <| w_cc b123 d123_37 rfl (pcl_v (n := 2) rfl rfl rfl (by decide +kernel) (sh_isOb hs (tlt 139 rfl) tbC_139) rfl rfl) rfl <| c115 hs h.2.2.2.1 h.2.2.2.2.1 <| w_rv b123 d123_40 r123 (h.2.2.2.2.2 _ rfl)
theorem e123 {w : PW} {Q : PO → PW → Prop} {c : Nat} {x2 : Int} {x3 : Int} (hs : Sh w) (hc : bx c) (hx2 : bd x2) (hx3 : bd x3) (h : (0 ≤ x2 ∧ x2 < 60) ∧ (bd ((gI w c 1) * x3 + (gI w (c + 5) x2.toNat))) ∧ (0 ≤ x2 ∧ x2 < 60) ∧ (bd ((gI w c 1) * x3 + (gI w (c + 5) x2.toNat))) ∧ (0 ≤ ((gI w c 1) * x3 + (gI w (c + 5) x2.toNat)) ∧ ((gI w c 1) * x3 + (gI w (c + 5) x2.toNat)) < 36) ∧ ∀ w1 : PW, w1 = sL w 142 (((gI w c 1) * x3 + (gI w (c + 5) x2.toNat))).toNat ((lT w ((gI w c 1) * x3 + (gI w (c + 5) x2.toNat))) ||| (lShl ((1 : Int64)) (gI w (c + 6) x2.toNat))) → Q (.inl none) w1) : pC 123 [.ref 139, .ref c, iv x2, iv x3] w Q :=
  (pC_in (Nat.le_of_ble_eq_true rfl) rfl Q).mpr (v123_0 hs hc hx2 hx3 h)
theorem c122 {w : PW} {Q : PO → PW → Prop} {c u d t : Nat} {m : Row} {ch : Nat → Int} (hs : Sh w) (hC : BR w c m) (hu : (u : Int) < m 1) (hd : d < ordR m u) (ht : (t : Int) < m 4) (hT : TrS w m u ch d) (hch : ChOK m u ch d) (h : Q (.inl (some (iv (if sFit m u ch d t = true then 1 else 0)))) w) : pC 122 [.ref 139, .ref c, iv (ordN m u d : Nat), iv (t : Nat)] w Q := by
  have hR := hC.ok
  have h0 := hR.s
  have h1 := hR.u
  have h2 := hR.g
  have h4 := hR.t
  have h5 := hR.n
  obtain ⟨o1, o2⟩ := ordN_ok hR hd
  obtain ⟨f1, f2, f3⟩ := hC.N o1
  have hst := sStp_bd hR hd
  have hn := sNeed_bd hR ht
  have hlt := trk_lt hR hu (show t < 12 by omega)
  have ei : m 1 * (t : Int) + (u : Int) = (((m 1).toNat * t + u : Nat) : Int) := trk_i hR
  refine e122 hs hC.bx (bdk (by omega)) (bdk (by omega)) ?_
  rw [Int.toNat_natCast, Int.toNat_natCast, hC.need ht, hC.s, hC.u, hC.g, f1, f2, o2]
  show _ ∧ _
  have e2 : rN m (ordN m u d) 1 = sStp m u d := rfl
  rw [e2]
  have iO := own (t := t) (n := sNeed m t) hR hu hT (by omega) ht hst hn.2
  have iA := side (x := m 1 * (t : Int) + u - 1) hR hu hT hch (by omega) hst
  have iB := side (x := m 1 * (t : Int) + u + 1) hR hu hT hch (by omega) hst
  have iF := sFit_iff (u := u) (ch := ch) (d := d) (t := t) hR
  refine ⟨⟨by omega, by omega⟩, ⟨by omega, by omega⟩, ⟨by omega, by omega⟩, ⟨by omega, by omega⟩, fun q => ?_, fun q => ⟨⟨by omega, by omega⟩, ⟨by omega, by omega⟩, ⟨by omega, by omega⟩, ⟨by omega, by omega⟩, ⟨by omega, by omega⟩, fun q2 => ⟨⟨by omega, by omega⟩, ⟨by omega, by omega⟩, ⟨by omega, by omega⟩, ⟨by omega, by omega⟩, ⟨by omega, by omega⟩, fun q3 => ?_, fun q3 => ?_⟩, fun q2 => ?_⟩⟩
  · rw [if_neg (fun z => by have := (iF.mp z).1; omega)] at h
    exact h
  · rw [if_neg (fun z => ?_)] at h
    · exact h
    · have z2 := iF.mp z
      exact q3 (lCmp_eq.mpr (or_and_zero.mpr ⟨iA.mpr z2.2.2.1, iB.mpr z2.2.2.2⟩))
  · have z3 := or_and_zero.mp (lCmp_eq.mp q3)
    rw [if_pos (iF.mpr ⟨q, iO.mp (lCmp_eq.mp q2), iA.mp z3.1, iB.mp z3.2⟩)] at h
    exact h
  · rw [if_neg (fun z => ?_)] at h
    · exact h
    · exact q2 (lCmp_eq.mpr (iO.mpr (iF.mp z).2.1))
theorem c123 {w : PW} {Q : PO → PW → Prop} {c u d t : Nat} {m : Row} {ch : Nat → Int} (hs : Sh w) (hC : BR w c m) (hu : (u : Int) < m 1) (hd : d < ordR m u) (ht : (t : Int) < m 4) (hT : TrS w m u ch d) (h : ∀ w2, Sh w2 → TrS w2 m u (chSet ch d (t : Nat)) (d + 1) → (∀ a, a ≠ 142 → w2.2.2 a = w.2.2 a) → Q (.inl none) w2) : pC 123 [.ref 139, .ref c, iv (ordN m u d : Nat), iv (t : Nat)] w Q := by
  have hR := hC.ok
  have h0 := hR.s
  have h1 := hR.u
  have h4 := hR.t
  have h5 := hR.n
  obtain ⟨o1, o2⟩ := ordN_ok hR hd
  obtain ⟨f1, f2, f3⟩ := hC.N o1
  have hst := sStp_bd hR hd
  have hlt := trk_lt hR hu (show t < 12 by omega)
  have ei : m 1 * (t : Int) + (u : Int) = (((m 1).toNat * t + u : Nat) : Int) := trk_i hR
  refine e123 hs hC.bx (bdk (by omega)) (bdk (by omega)) ?_
  rw [Int.toNat_natCast, hC.u, f1, f2, o2, ei, Int.toNat_natCast, lT_in hlt.1, show rN m (ordN m u d) 1 = sStp m u d from rfl]
  refine ⟨⟨by omega, by omega⟩, ⟨by omega, by omega⟩, ⟨by omega, by omega⟩, ⟨by omega, by omega⟩, ⟨by omega, by omega⟩, fun w1 e1 => ?_⟩
  obtain ⟨s1, g1, -, k1⟩ := stL e1 hs (by omega) tbC_142
  refine h w1 s1 (fun j s hj hs9 => ?_) k1
  have hl : ∀ j, sLaid m u (chSet ch d (t : Nat)) (d + 1) j s = (sLaid m u ch d j s || (decide (j = (m 1).toNat * t + u) && decide (sStp m u d = (s : Int)))) := by
    intro j
    rw [Bool.eq_iff_iff, sLaid_iff, Bool.or_eq_true, sLaid_iff, Bool.and_eq_true, decide_eq_true_eq, decide_eq_true_eq]
    constructor
    · intro ⟨k, hk, he, hr⟩
      unfold chSet at he
      by_cases q : k = d
      · rw [if_pos q, ei] at he
        exact Or.inr ⟨by omega, by rw [← q]; exact hr⟩
      · rw [if_neg q] at he
        exact Or.inl ⟨k, by omega, he, hr⟩
    · intro z
      rcases z with ⟨k, hk, he, hr⟩ | ⟨he, hr⟩
      · refine ⟨k, by omega, ?_, hr⟩
        unfold chSet
        rw [if_neg (by omega)]
        exact he
      · refine ⟨d, by omega, ?_, hr⟩
        unfold chSet
        rw [if_pos rfl, ei, he]
  rw [g1]
  by_cases e : j = (m 1).toNat * t + u
  · have q : j % (m 1).toNat = u ∧ j < (m 1).toNat * (m 4).toNat := by rw [e]; exact ⟨(trk_mod hR hu).1, trk_UT hR hu ht⟩
    rw [if_pos ⟨rfl, e⟩, if_pos q, hl, tL_or, ← e, hT j s hj hs9, if_pos q, tL_bit (by omega) hs9, decide_eq_true (p := j = j) rfl, Bool.true_and]
    congr 1
    exact decide_eq_decide.mpr ⟨fun z => by omega, fun z => by omega⟩
  · rw [if_neg (fun z => e z.2), hT j s hj hs9, hl, decide_eq_false e, Bool.false_and, Bool.or_false]
theorem c121 {w : PW} {Q : PO → PW → Prop} {c u d t : Nat} {m : Row} {ch : Nat → Int} (hs : Sh w) (hC : BR w c m) (hu : (u : Int) < m 1) (hd : d < ordR m u) (ht : (t : Int) < m 4) (htc : ch d = (t : Int)) (hT : TrS w m u ch (d + 1)) (hch : ChOK m u ch (d + 1)) (h : ∀ w2, Sh w2 → TrS w2 m u ch d → (∀ a, a ≠ 142 → w2.2.2 a = w.2.2 a) → Q (.inl none) w2) : pC 121 [.ref 139, .ref c, iv (ordN m u d : Nat), iv (t : Nat)] w Q := by
  have hR := hC.ok
  have h0 := hR.s
  have h1 := hR.u
  have h4 := hR.t
  have h5 := hR.n
  obtain ⟨o1, o2⟩ := ordN_ok hR hd
  obtain ⟨f1, f2, f3⟩ := hC.N o1
  have hst := sStp_bd hR hd
  have hlt := trk_lt hR hu (show t < 12 by omega)
  have ei : m 1 * (t : Int) + (u : Int) = (((m 1).toNat * t + u : Nat) : Int) := trk_i hR
  refine e121 hs hC.bx (bdk (by omega)) (bdk (by omega)) ?_
  rw [Int.toNat_natCast, hC.u, f1, f2, o2, ei, Int.toNat_natCast, lT_in hlt.1, show rN m (ordN m u d) 1 = sStp m u d from rfl]
  refine ⟨⟨by omega, by omega⟩, ⟨by omega, by omega⟩, ⟨by omega, by omega⟩, ⟨by omega, by omega⟩, ⟨by omega, by omega⟩, fun w1 e1 => ?_⟩
  obtain ⟨s1, g1, -, k1⟩ := stL e1 hs (by omega) tbC_142
  refine h w1 s1 (fun j s hj hs9 => ?_) k1
  have hl : ∀ j, sLaid m u ch (d + 1) j s = (sLaid m u ch d j s || (decide (j = (m 1).toNat * t + u) && decide (sStp m u d = (s : Int)))) := by
    intro j
    rw [Bool.eq_iff_iff, sLaid_iff, Bool.or_eq_true, sLaid_iff, Bool.and_eq_true, decide_eq_true_eq, decide_eq_true_eq]
    constructor
    · intro ⟨k, hk, he, hr⟩
      by_cases q : k = d
      · rw [q, htc, ei] at he
        exact Or.inr ⟨by omega, by rw [← q]; exact hr⟩
      · exact Or.inl ⟨k, by omega, he, hr⟩
    · intro z
      rcases z with ⟨k, hk, he, hr⟩ | ⟨he, hr⟩
      · exact ⟨k, by omega, he, hr⟩
      · exact ⟨d, by omega, by rw [htc, ei, he], hr⟩
  rw [g1]
  by_cases e : j = (m 1).toNat * t + u
  · have q : j % (m 1).toNat = u ∧ j < (m 1).toNat * (m 4).toNat := by rw [e]; exact ⟨(trk_mod hR hu).1, trk_UT hR hu ht⟩
    rw [if_pos ⟨rfl, e⟩, if_pos q, tL_and, ← e, hT j s hj hs9, if_pos q, tL_not hs9, tL_bit (by omega) hs9, hl, decide_eq_true e, Bool.true_and]
    by_cases q2 : sStp m u d = (s : Int)
    · rw [decide_eq_true q2, decide_eq_true (p := s = (sStp m u d).toNat) (by omega), Bool.or_true, Bool.not_true, Bool.and_false]
      cases q3 : sLaid m u ch d j s with
      | false => rfl
      | true =>
        obtain ⟨k, hk, he, hr⟩ := sLaid_iff.mp q3
        rw [e, ← ei] at he
        have : ch k = ch d := by rw [htc]; exact mulU hR (by omega)
        exact absurd (by rw [hr, q2]) (hch.2 k d hk (by omega) this)
    · rw [decide_eq_false q2, decide_eq_false (p := s = (sStp m u d).toNat) (by omega), Bool.or_false, Bool.not_false, Bool.and_true]
  · rw [if_neg (fun z => e z.2), hT j s hj hs9, hl, decide_eq_false e, Bool.false_and, Bool.or_false]

