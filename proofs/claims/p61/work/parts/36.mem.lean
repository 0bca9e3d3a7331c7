/-! CHANGES: of cells, of rows -/
def mset (m : Row) (k : Nat) (z : Int) : Row := fun j => if j = k then z else m j
theorem stI {w w' : PW} {a k : Nat} {z : Int} (e : w' = sI w a k z) (hs : Sh w) (ha : a < 182) (hk : slt (tb a) k) (hz : bd z) : Sh w' ∧ (∀ c j, gI w' c j = if c = a ∧ j = k then z else gI w c j) ∧ (∀ c j, gL w' c j = gL w c j) ∧ (∀ c, c ≠ a → w'.2.2 c = w.2.2 c) := by
  subst e
  refine ⟨Sh_sI hs hk, fun c j => ?_, fun c j => gL_sI, fun c hc => sI_ne hc⟩
  by_cases q : c = a ∧ j = k
  · rw [if_pos q, q.1, q.2]
    exact gI_sI_same hs ha hk hz
  · rw [if_neg q]
    exact gI_sI_ne (by omega)
theorem stL {w w' : PW} {a k n : Nat} {z : Int64} (e : w' = sL w a k z) (hs : Sh w) (ha : a < 182) (ht : tb a = (3, 1, [some n])) : Sh w' ∧ (∀ c j, gL w' c j = if c = a ∧ j = k then z else gL w c j) ∧ (∀ c j, gI w' c j = gI w c j) ∧ (∀ c, c ≠ a → w'.2.2 c = w.2.2 c) := by
  subst e
  refine ⟨Sh_sL hs, fun c j => ?_, fun c j => gI_sL, fun c hc => sL_ne hc⟩
  by_cases q : c = a ∧ j = k
  · rw [if_pos q, q.1, q.2]
    exact gL_sL_same hs ha ht
  · rw [if_neg q]
    exact gL_sL_ne (by omega)
theorem stC {w w' : PW} {a0 a n n0 n1 : Nat} (e : w' = sCp w a0 a n) (hs : Sh w) (h0 : a0 < 182) (ht0 : tb a0 = (1, 0, [some n0])) (h1 : a < 182) (ht1 : tb a = (1, 0, [some n1])) : Sh w' ∧ (∀ c j, gI w' c j = if c = a ∧ j < n then gI w a0 j else gI w c j) ∧ (∀ c j, gL w' c j = gL w c j) ∧ (∀ c, c ≠ a → w'.2.2 c = w.2.2 c) := by
  subst e
  exact ⟨Sh_sCp hs, gI_sCp hs h0 ht0 h1 ht1, gL_sCpI hs h0 ht0 h1 ht1, fun c hc => sCp_ne hc⟩
theorem stD {w w' : PW} {a0 a n n0 n1 : Nat} (e : w' = sCp w a0 a n) (hs : Sh w) (h0 : a0 < 182) (ht0 : tb a0 = (3, 1, [some n0])) (h1 : a < 182) (ht1 : tb a = (3, 1, [some n1])) : Sh w' ∧ (∀ c j, gL w' c j = if c = a ∧ j < n then gL w a0 j else gL w c j) ∧ (∀ c j, gI w' c j = gI w c j) ∧ (∀ c, c ≠ a → w'.2.2 c = w.2.2 c) := by
  subst e
  exact ⟨Sh_sCp hs, gL_sCp hs h0 ht0 h1 ht1, gI_sCpL hs h0 ht0 h1 ht1, fun c hc => sCp_ne hc⟩
/-- nothing outside a box has changed -/
def OB (b : Nat) (w w' : PW) : Prop := ∀ c, ¬ (b ≤ c ∧ c < b + 13) → w'.2.2 c = w.2.2 c
theorem OB.rf {b : Nat} {w : PW} : OB b w w := fun _ _ => rfl
theorem OB.tr {b : Nat} {w w1 w2 : PW} (h1 : OB b w w1) (h2 : OB b w1 w2) : OB b w w2 := fun c hc => (h2 c hc).trans (h1 c hc)
theorem OB.st {b a : Nat} {w w' : PW} (h : ∀ c, c ≠ a → w'.2.2 c = w.2.2 c) (ha : b ≤ a ∧ a < b + 13) : OB b w w' := fun c hc => h c (fun e => hc (e ▸ ha))
theorem br_other {w w' : PW} {b c : Nat} {m : Row} (h : BR w c m) (ho : OB b w w') (hb : bx b) (hne : c ≠ b) : BR w' c m := by
  have := bx_ne h.bx hb hne
  exact h.cells (fun k hk => ho (c + k) (by omega))
/-! copies of a box -/
/-! 35: PinBarrel$Notes.copyFrom(LPinBarrel$Notes;)V -/
theorem b35 : mB 35 = cX2_copyFrom := rfl
theorem r35 : mR 35 = none := rfl
theorem p35 (a b : Nat) : phi 35 a ≤ phi 35 b := Nat.le_refl 0
theorem d35_0 : decode cX2_copyFrom 0 = .ok (.aload_n 0, 1) := by decide +kernel
theorem d35_1 : decode cX2_copyFrom 1 = .ok (.aload_n 1, 1) := by decide +kernel
theorem d35_2 : decode cX2_copyFrom 2 = .ok (.getfield 9, 3) := by decide +kernel
theorem d35_5 : decode cX2_copyFrom 5 = .ok (.putfield 9, 3) := by decide +kernel
theorem d35_8 : decode cX2_copyFrom 8 = .ok (.aload_n 1, 1) := by decide +kernel
theorem d35_9 : decode cX2_copyFrom 9 = .ok (.getfield 15, 3) := by decide +kernel
theorem d35_12 : decode cX2_copyFrom 12 = .ok (.iconst 0, 1) := by decide +kernel
theorem d35_13 : decode cX2_copyFrom 13 = .ok (.aload_n 0, 1) := by decide +kernel
theorem d35_14 : decode cX2_copyFrom 14 = .ok (.getfield 15, 3) := by decide +kernel
theorem d35_17 : decode cX2_copyFrom 17 = .ok (.iconst 0, 1) := by decide +kernel
theorem d35_18 : decode cX2_copyFrom 18 = .ok (.aload_n 0, 1) := by decide +kernel
theorem d35_19 : decode cX2_copyFrom 19 = .ok (.getfield 9, 3) := by decide +kernel
theorem d35_22 : decode cX2_copyFrom 22 = .ok (.invokestatic 25, 3) := by decide +kernel
theorem d35_25 : decode cX2_copyFrom 25 = .ok (.aload_n 1, 1) := by decide +kernel
theorem d35_26 : decode cX2_copyFrom 26 = .ok (.getfield 19, 3) := by decide +kernel
theorem d35_29 : decode cX2_copyFrom 29 = .ok (.iconst 0, 1) := by decide +kernel
theorem d35_30 : decode cX2_copyFrom 30 = .ok (.aload_n 0, 1) := by decide +kernel
theorem d35_31 : decode cX2_copyFrom 31 = .ok (.getfield 19, 3) := by decide +kernel
theorem d35_34 : decode cX2_copyFrom 34 = .ok (.iconst 0, 1) := by decide +kernel
theorem d35_35 : decode cX2_copyFrom 35 = .ok (.aload_n 0, 1) := by decide +kernel
theorem d35_36 : decode cX2_copyFrom 36 = .ok (.getfield 9, 3) := by decide +kernel
theorem d35_39 : decode cX2_copyFrom 39 = .ok (.invokestatic 25, 3) := by decide +kernel
theorem d35_42 : decode cX2_copyFrom 42 = .ok (.aload_n 1, 1) := by decide +kernel
theorem d35_43 : decode cX2_copyFrom 43 = .ok (.getfield 22, 3) := by decide +kernel
theorem d35_46 : decode cX2_copyFrom 46 = .ok (.iconst 0, 1) := by decide +kernel
theorem d35_47 : decode cX2_copyFrom 47 = .ok (.aload_n 0, 1) := by decide +kernel
theorem d35_48 : decode cX2_copyFrom 48 = .ok (.getfield 22, 3) := by decide +kernel
theorem d35_51 : decode cX2_copyFrom 51 = .ok (.iconst 0, 1) := by decide +kernel
theorem d35_52 : decode cX2_copyFrom 52 = .ok (.aload_n 0, 1) := by decide +kernel
theorem d35_53 : decode cX2_copyFrom 53 = .ok (.getfield 9, 3) := by decide +kernel
theorem d35_56 : decode cX2_copyFrom 56 = .ok (.invokestatic 25, 3) := by decide +kernel
theorem d35_59 : decode cX2_copyFrom 59 = .ok (.return_, 1) := by decide +kernel
theorem v35_0 {w : PW} {Q : PO → PW → Prop} {b : Nat} {c : Nat} (hs : Sh w) (hb : bx b) (hc : bx c) (h : ∀ w1 : PW, w1 = sI w (b + 4) 0 (gI w (c + 4) 0) → (0 ≤ (gI w1 (b + 4) 0) ∧ (gI w1 (b + 4) 0) ≤ 60 ∧ (gI w1 (b + 4) 0) ≤ 60) ∧ ∀ w2 : PW, w2 = sCp w1 (c + 5) (b + 5) (gI w1 (b + 4) 0).toNat → (0 ≤ (gI w2 (b + 4) 0) ∧ (gI w2 (b + 4) 0) ≤ 60 ∧ (gI w2 (b + 4) 0) ≤ 60) ∧ ∀ w3 : PW, w3 = sCp w2 (c + 6) (b + 6) (gI w2 (b + 4) 0).toNat → (0 ≤ (gI w3 (b + 4) 0) ∧ (gI w3 (b + 4) 0) ≤ 60 ∧ (gI w3 (b + 4) 0) ≤ 60) ∧ ∀ w4 : PW, w4 = sCp w3 (c + 7) (b + 7) (gI w3 (b + 4) 0).toNat → Q (.inl none) w4) : pX 35 0 [some (.ref (b + 4)), some (.ref (c + 4))] [] w Q :=
  w_f b35 d35_0 rfl rfl rfl <| w_f b35 d35_1 rfl rfl rfl <| w_gi b35 d35_2 rfl rfl hs (bxk hc 4 rfl) (tb4 hc) rfl <| w_pi b35 d35_5 rfl rfl hs (bxk hb 4 rfl) (tb4 hb) rfl rfl rfl <| w_f b35 d35_8 rfl rfl rfl <| w_gr b35 d35_9 rfl rfl (Sh_sI hs (slt_o (tb4 hb) rfl)) (bxk hc 4 rfl) (tb4 hc) rfl (bxr hc 5 rfl) <| w_f b35 d35_12 rfl rfl rfl <| w_f b35 d35_13 rfl rfl rfl <| w_gr b35 d35_14 rfl rfl (Sh_sI hs (slt_o (tb4 hb) rfl)) (bxk hb 4 rfl) (tb4 hb) rfl (bxr hb 5 rfl) <| w_f b35 d35_17 rfl rfl rfl <| w_f b35 d35_18 rfl rfl rfl <| w_gi b35 d35_19 rfl rfl (Sh_sI hs (slt_o (tb4 hb) rfl)) (bxk hb 4 rfl) (tb4 hb) rfl <| w_acpI b35 d35_22 rfl rfl rfl (Sh_sI hs (slt_o (tb4 hb) rfl)) (bxk hc 5 rfl) (tb5 hc) (bxk hb 5 rfl) (tb5 hb) (bd_gI _ _ _) (h _ rfl).1 <| w_f b35 d35_25 rfl rfl rfl <| w_gr b35 d35_26 rfl rfl (Sh_sCp (Sh_sI hs (slt_o (tb4 hb) rfl))) (bxk hc 4 rfl) (tb4 hc) rfl (bxr hc 6 rfl) <| w_f b35 d35_29 rfl rfl rfl <| w_f b35 d35_30 rfl rfl rfl <| w_gr b35 d35_31 rfl rfl (Sh_sCp (Sh_sI hs (slt_o (tb4 hb) rfl))) (bxk hb 4 rfl) (tb4 hb) rfl (bxr hb 6 rfl) <| w_f b35 d35_34 rfl rfl rfl <| w_f b35 d35_35 rfl rfl rfl <| w_gi b35 d35_36 rfl rfl (Sh_sCp (Sh_sI hs (slt_o (tb4 hb) rfl))) (bxk hb 4 rfl) (tb4 hb) rfl <| w_acpI b35 d35_39 rfl rfl rfl (Sh_sCp (Sh_sI hs (slt_o (tb4 hb) rfl))) (bxk hc 6 rfl) (tb6 hc) (bxk hb 6 rfl) (tb6 hb) (bd_gI _ _ _) ((h _ rfl).2 _ rfl).1 <| w_f b35 d35_42 rfl rfl rfl <| w_gr b35 d35_43 rfl rfl (Sh_sCp (Sh_sCp (Sh_sI hs (slt_o (tb4 hb) rfl)))) (bxk hc 4 rfl) (tb4 hc) rfl (bxr hc 7 rfl) <| w_f b35 d35_46 rfl rfl rfl <| w_f b35 d35_47 rfl rfl rfl <| w_gr b35 d35_48 rfl rfl (Sh_sCp (Sh_sCp (Sh_sI hs (slt_o (tb4 hb) rfl)))) (bxk hb 4 rfl) (tb4 hb) rfl (bxr hb 7 rfl) <| w_f b35 d35_51 rfl rfl rfl <| w_f b35 d35_52 rfl rfl rfl <| w_gi b35 d35_53 rfl rfl (Sh_sCp (Sh_sCp (Sh_sI hs (slt_o (tb4 hb) rfl)))) (bxk hb 4 rfl) (tb4 hb) rfl <| w_acpI b35 d35_56 rfl rfl rfl (Sh_sCp (Sh_sCp (Sh_sI hs (slt_o (tb4 hb) rfl)))) (bxk hc 7 rfl) (tb7 hc) (bxk hb 7 rfl) (tb7 hb) (bd_gI _ _ _) (((h _ rfl).2 _ rfl).2 _ rfl).1 <| w_rv b35 d35_59 r35 ((((h _ rfl).2 _ rfl).2 _ rfl).2 _ rfl)
theorem e35 {w : PW} {Q : PO → PW → Prop} {b : Nat} {c : Nat} (hs : Sh w) (hb : bx b) (hc : bx c) (h : ∀ w1 : PW, w1 = sI w (b + 4) 0 (gI w (c + 4) 0) → (0 ≤ (gI w1 (b + 4) 0) ∧ (gI w1 (b + 4) 0) ≤ 60 ∧ (gI w1 (b + 4) 0) ≤ 60) ∧ ∀ w2 : PW, w2 = sCp w1 (c + 5) (b + 5) (gI w1 (b + 4) 0).toNat → (0 ≤ (gI w2 (b + 4) 0) ∧ (gI w2 (b + 4) 0) ≤ 60 ∧ (gI w2 (b + 4) 0) ≤ 60) ∧ ∀ w3 : PW, w3 = sCp w2 (c + 6) (b + 6) (gI w2 (b + 4) 0).toNat → (0 ≤ (gI w3 (b + 4) 0) ∧ (gI w3 (b + 4) 0) ≤ 60 ∧ (gI w3 (b + 4) 0) ≤ 60) ∧ ∀ w4 : PW, w4 = sCp w3 (c + 7) (b + 7) (gI w3 (b + 4) 0).toNat → Q (.inl none) w4) : pC 35 [.ref (b + 4), .ref (c + 4)] w Q :=
  (pC_in (Nat.le_of_ble_eq_true rfl) rfl Q).mpr (v35_0 hs hb hc h)
/-! 36: PinBarrel$Play.copyFrom(LPinBarrel$Play;)V -/
theorem b36 : mB 36 = cX3_copyFrom := rfl
theorem r36 : mR 36 = none := rfl
theorem p36 (a b : Nat) : phi 36 a ≤ phi 36 b := Nat.le_refl 0
theorem d36_0 : decode cX3_copyFrom 0 = .ok (.aload_n 0, 1) := by decide +kernel
theorem d36_1 : decode cX3_copyFrom 1 = .ok (.aload_n 1, 1) := by decide +kernel
theorem d36_2 : decode cX3_copyFrom 2 = .ok (.getfield 9, 3) := by decide +kernel
theorem d36_5 : decode cX3_copyFrom 5 = .ok (.putfield 9, 3) := by decide +kernel
theorem d36_8 : decode cX3_copyFrom 8 = .ok (.aload_n 0, 1) := by decide +kernel
theorem d36_9 : decode cX3_copyFrom 9 = .ok (.aload_n 1, 1) := by decide +kernel
theorem d36_10 : decode cX3_copyFrom 10 = .ok (.getfield 15, 3) := by decide +kernel
theorem d36_13 : decode cX3_copyFrom 13 = .ok (.putfield 15, 3) := by decide +kernel
theorem d36_16 : decode cX3_copyFrom 16 = .ok (.aload_n 0, 1) := by decide +kernel
theorem d36_17 : decode cX3_copyFrom 17 = .ok (.aload_n 1, 1) := by decide +kernel
theorem d36_18 : decode cX3_copyFrom 18 = .ok (.getfield 18, 3) := by decide +kernel
theorem d36_21 : decode cX3_copyFrom 21 = .ok (.putfield 18, 3) := by decide +kernel
theorem d36_24 : decode cX3_copyFrom 24 = .ok (.aload_n 0, 1) := by decide +kernel
theorem d36_25 : decode cX3_copyFrom 25 = .ok (.aload_n 1, 1) := by decide +kernel
theorem d36_26 : decode cX3_copyFrom 26 = .ok (.getfield 21, 3) := by decide +kernel
theorem d36_29 : decode cX3_copyFrom 29 = .ok (.putfield 21, 3) := by decide +kernel
theorem d36_32 : decode cX3_copyFrom 32 = .ok (.aload_n 0, 1) := by decide +kernel
theorem d36_33 : decode cX3_copyFrom 33 = .ok (.aload_n 1, 1) := by decide +kernel
theorem d36_34 : decode cX3_copyFrom 34 = .ok (.getfield 24, 3) := by decide +kernel
theorem d36_37 : decode cX3_copyFrom 37 = .ok (.putfield 24, 3) := by decide +kernel
theorem d36_40 : decode cX3_copyFrom 40 = .ok (.aload_n 1, 1) := by decide +kernel
theorem d36_41 : decode cX3_copyFrom 41 = .ok (.getfield 27, 3) := by decide +kernel
theorem d36_44 : decode cX3_copyFrom 44 = .ok (.iconst 0, 1) := by decide +kernel
theorem d36_45 : decode cX3_copyFrom 45 = .ok (.aload_n 0, 1) := by decide +kernel
theorem d36_46 : decode cX3_copyFrom 46 = .ok (.getfield 27, 3) := by decide +kernel
theorem d36_49 : decode cX3_copyFrom 49 = .ok (.iconst 0, 1) := by decide +kernel
theorem d36_50 : decode cX3_copyFrom 50 = .ok (.bipush 12, 2) := by decide +kernel
theorem d36_52 : decode cX3_copyFrom 52 = .ok (.invokestatic 46, 3) := by decide +kernel
theorem d36_55 : decode cX3_copyFrom 55 = .ok (.aload_n 1, 1) := by decide +kernel
theorem d36_56 : decode cX3_copyFrom 56 = .ok (.getfield 31, 3) := by decide +kernel
theorem d36_59 : decode cX3_copyFrom 59 = .ok (.iconst 0, 1) := by decide +kernel
theorem d36_60 : decode cX3_copyFrom 60 = .ok (.aload_n 0, 1) := by decide +kernel
theorem d36_61 : decode cX3_copyFrom 61 = .ok (.getfield 31, 3) := by decide +kernel
theorem d36_64 : decode cX3_copyFrom 64 = .ok (.iconst 0, 1) := by decide +kernel
theorem d36_65 : decode cX3_copyFrom 65 = .ok (.bipush 12, 2) := by decide +kernel
theorem d36_67 : decode cX3_copyFrom 67 = .ok (.invokestatic 46, 3) := by decide +kernel
theorem d36_70 : decode cX3_copyFrom 70 = .ok (.aload_n 1, 1) := by decide +kernel
theorem d36_71 : decode cX3_copyFrom 71 = .ok (.getfield 34, 3) := by decide +kernel
theorem d36_74 : decode cX3_copyFrom 74 = .ok (.iconst 0, 1) := by decide +kernel
theorem d36_75 : decode cX3_copyFrom 75 = .ok (.aload_n 0, 1) := by decide +kernel
theorem d36_76 : decode cX3_copyFrom 76 = .ok (.getfield 34, 3) := by decide +kernel
theorem d36_79 : decode cX3_copyFrom 79 = .ok (.iconst 0, 1) := by decide +kernel
theorem d36_80 : decode cX3_copyFrom 80 = .ok (.bipush 12, 2) := by decide +kernel
theorem d36_82 : decode cX3_copyFrom 82 = .ok (.invokestatic 46, 3) := by decide +kernel
theorem d36_85 : decode cX3_copyFrom 85 = .ok (.aload_n 1, 1) := by decide +kernel
theorem d36_86 : decode cX3_copyFrom 86 = .ok (.getfield 37, 3) := by decide +kernel
theorem d36_89 : decode cX3_copyFrom 89 = .ok (.iconst 0, 1) := by decide +kernel
theorem d36_90 : decode cX3_copyFrom 90 = .ok (.aload_n 0, 1) := by decide +kernel
theorem d36_91 : decode cX3_copyFrom 91 = .ok (.getfield 37, 3) := by decide +kernel
theorem d36_94 : decode cX3_copyFrom 94 = .ok (.iconst 0, 1) := by decide +kernel
theorem d36_95 : decode cX3_copyFrom 95 = .ok (.sipush 400, 3) := by decide +kernel
theorem d36_98 : decode cX3_copyFrom 98 = .ok (.invokestatic 46, 3) := by decide +kernel
theorem d36_101 : decode cX3_copyFrom 101 = .ok (.return_, 1) := by decide +kernel
theorem v36_0 {w : PW} {Q : PO → PW → Prop} {b : Nat} {c : Nat} (hs : Sh w) (hb : bx b) (hc : bx c) (h : ∀ w1 : PW, w1 = sI w (b + 8) 0 (gI w (c + 8) 0) → ∀ w2 : PW, w2 = sI w1 (b + 8) 1 (gI w1 (c + 8) 1) → ∀ w3 : PW, w3 = sI w2 (b + 8) 2 (gI w2 (c + 8) 2) → ∀ w4 : PW, w4 = sI w3 (b + 8) 3 (gI w3 (c + 8) 3) → ∀ w5 : PW, w5 = sI w4 (b + 8) 4 (gI w4 (c + 8) 4) → ∀ w6 : PW, w6 = sCp w5 (c + 9) (b + 9) 12 → ∀ w7 : PW, w7 = sCp w6 (c + 10) (b + 10) 12 → ∀ w8 : PW, w8 = sCp w7 (c + 11) (b + 11) 12 → ∀ w9 : PW, w9 = sCp w8 (c + 12) (b + 12) 400 → Q (.inl none) w9) : pX 36 0 [some (.ref (b + 8)), some (.ref (c + 8))] [] w Q :=
  w_f b36 d36_0 rfl rfl rfl <| w_f b36 d36_1 rfl rfl rfl <| w_gi b36 d36_2 rfl rfl hs (bxk hc 8 rfl) (tb8 hc) rfl <| w_pi b36 d36_5 rfl rfl hs (bxk hb 8 rfl) (tb8 hb) rfl rfl rfl <| w_f b36 d36_8 rfl rfl rfl <| w_f b36 d36_9 rfl rfl rfl <| w_gi b36 d36_10 rfl rfl (Sh_sI hs (slt_o (tb8 hb) rfl)) (bxk hc 8 rfl) (tb8 hc) rfl <| w_pi b36 d36_13 rfl rfl (Sh_sI hs (slt_o (tb8 hb) rfl)) (bxk hb 8 rfl) (tb8 hb) rfl rfl rfl <| w_f b36 d36_16 rfl rfl rfl <| w_f b36 d36_17 rfl rfl rfl <| w_gi b36 d36_18 rfl rfl (Sh_sI (Sh_sI hs (slt_o (tb8 hb) rfl)) (slt_o (tb8 hb) rfl)) (bxk hc 8 rfl) (tb8 hc) rfl <| w_pi b36 d36_21 rfl rfl (Sh_sI (Sh_sI hs (slt_o (tb8 hb) rfl)) (slt_o (tb8 hb) rfl)) (bxk hb 8 rfl) (tb8 hb) rfl rfl rfl <| w_f b36 d36_24 rfl rfl rfl <| w_f b36 d36_25 rfl rfl rfl <| w_gi b36 d36_26 rfl rfl (Sh_sI (Sh_sI (Sh_sI hs (slt_o (tb8 hb) rfl)) (slt_o (tb8 hb) rfl)) (slt_o (tb8 hb) rfl)) (bxk hc 8 rfl) (tb8 hc) rfl <| w_pi b36 d36_29 rfl rfl (Sh_sI (Sh_sI (Sh_sI hs (slt_o (tb8 hb) rfl)) (slt_o (tb8 hb) rfl)) (slt_o (tb8 hb) rfl)) (bxk hb 8 rfl) (tb8 hb) rfl rfl rfl <| w_f b36 d36_32 rfl rfl rfl <| w_f b36 d36_33 rfl rfl rfl <| w_gi b36 d36_34 rfl rfl (Sh_sI (Sh_sI (Sh_sI (Sh_sI hs (slt_o (tb8 hb) rfl)) (slt_o (tb8 hb) rfl)) (slt_o (tb8 hb) rfl)) (slt_o (tb8 hb) rfl)) (bxk hc 8 rfl) (tb8 hc) rfl <| w_pi b36 d36_37 rfl rfl (Sh_sI (Sh_sI (Sh_sI (Sh_sI hs (slt_o (tb8 hb) rfl)) (slt_o (tb8 hb) rfl)) (slt_o (tb8 hb) rfl)) (slt_o (tb8 hb) rfl)) (bxk hb 8 rfl) (tb8 hb) rfl rfl rfl <| w_f b36 d36_40 rfl rfl rfl <| w_gr b36 d36_41 rfl rfl (Sh_sI (Sh_sI (Sh_sI (Sh_sI (Sh_sI hs (slt_o (tb8 hb) rfl)) (slt_o (tb8 hb) rfl)) (slt_o (tb8 hb) rfl)) (slt_o (tb8 hb) rfl)) (slt_o (tb8 hb) rfl)) (bxk hc 8 rfl) (tb8 hc) rfl (bxr hc 9 rfl) <| w_f b36 d36_44 rfl rfl rfl <| w_f b36 d36_45 rfl rfl rfl <| w_gr b36 d36_46 rfl rfl (Sh_sI (Sh_sI (Sh_sI (Sh_sI (Sh_sI hs (slt_o (tb8 hb) rfl)) (slt_o (tb8 hb) rfl)) (slt_o (tb8 hb) rfl)) (slt_o (tb8 hb) rfl)) (slt_o (tb8 hb) rfl)) (bxk hb 8 rfl) (tb8 hb) rfl (bxr hb 9 rfl) <| w_f b36 d36_49 rfl rfl rfl <| w_f b36 d36_50 rfl rfl rfl <| w_acpI b36 d36_52 rfl rfl rfl (Sh_sI (Sh_sI (Sh_sI (Sh_sI (Sh_sI hs (slt_o (tb8 hb) rfl)) (slt_o (tb8 hb) rfl)) (slt_o (tb8 hb) rfl)) (slt_o (tb8 hb) rfl)) (slt_o (tb8 hb) rfl)) (bxk hc 9 rfl) (tb9 hc) (bxk hb 9 rfl) (tb9 hb) ⟨by decide, by decide⟩ ⟨by decide, by decide, by decide⟩ <| w_f b36 d36_55 rfl rfl rfl <| w_gr b36 d36_56 rfl rfl (Sh_sCp (Sh_sI (Sh_sI (Sh_sI (Sh_sI (Sh_sI hs (slt_o (tb8 hb) rfl)) (slt_o (tb8 hb) rfl)) (slt_o (tb8 hb) rfl)) (slt_o (tb8 hb) rfl)) (slt_o (tb8 hb) rfl))) (bxk hc 8 rfl) (tb8 hc) rfl (bxr hc 10 rfl) <| w_f b36 d36_59 rfl rfl rfl <| w_f b36 d36_60 rfl rfl rfl <| w_gr b36 d36_61 rfl rfl (Sh_sCp (Sh_sI (Sh_sI (Sh_sI (Sh_sI (Sh_sI hs (slt_o (tb8 hb) rfl)) (slt_o (tb8 hb) rfl)) (slt_o (tb8 hb) rfl)) (slt_o (tb8 hb) rfl)) (slt_o (tb8 hb) rfl))) (bxk hb 8 rfl) (tb8 hb) rfl (bxr hb 10 rfl) <| w_f b36 d36_64 rfl rfl rfl <| w_f b36 d36_65 rfl rfl rfl <| w_acpI b36 d36_67 rfl rfl rfl (Sh_sCp (Sh_sI (Sh_sI (Sh_sI (Sh_sI (Sh_sI hs (slt_o (tb8 hb) rfl)) (slt_o (tb8 hb) rfl)) (slt_o (tb8 hb) rfl)) (slt_o (tb8 hb) rfl)) (slt_o (tb8 hb) rfl))) (bxk hc 10 rfl) (tb10 hc) (bxk hb 10 rfl) (tb10 hb) ⟨by decide, by decide⟩ ⟨by decide, by decide, by decide⟩ <| w_f b36 d36_70 rfl rfl rfl <| w_gr b36 d36_71 rfl rfl (Sh_sCp (Sh_sCp (Sh_sI (Sh_sI (Sh_sI (Sh_sI (Sh_sI hs (slt_o (tb8 hb) rfl)) (slt_o (tb8 hb) rfl)) (slt_o (tb8 hb) rfl)) (slt_o (tb8 hb) rfl)) (slt_o (tb8 hb) rfl)))) (bxk hc 8 rfl) (tb8 hc) rfl (bxr hc 11 rfl) <| w_f b36 d36_74 rfl rfl rfl <| w_f b36 d36_75 rfl rfl rfl <| w_gr b36 d36_76 rfl rfl (Sh_sCp (Sh_sCp (Sh_sI (Sh_sI (Sh_sI (Sh_sI (Sh_sI hs (slt_o (tb8 hb) rfl)) (slt_o (tb8 hb) rfl)) (slt_o (tb8 hb) rfl)) (slt_o (tb8 hb) rfl)) (slt_o (tb8 hb) rfl)))) (bxk hb 8 rfl) (tb8 hb) rfl (bxr hb 11 rfl) <| w_f b36 d36_79 rfl rfl rfl <| w_f b36 d36_80 rfl rfl rfl <| w_acpI b36 d36_82 rfl rfl rfl (Sh_sCp (Sh_sCp (Sh_sI (Sh_sI (Sh_sI (Sh_sI (Sh_sI hs (slt_o (tb8 hb) rfl)) (slt_o (tb8 hb) rfl)) (slt_o (tb8 hb) rfl)) (slt_o (tb8 hb) rfl)) (slt_o (tb8 hb) rfl)))) (bxk hc 11 rfl) (tb11 hc) (bxk hb 11 rfl) (tb11 hb) ⟨by decide, by decide⟩ ⟨by decide, by decide, by decide⟩ <| w_f b36 d36_85 rfl rfl rfl <| w_gr b36 d36_86 rfl rfl (Sh_sCp (Sh_sCp (Sh_sCp (Sh_sI (Sh_sI (Sh_sI (Sh_sI (Sh_sI hs (slt_o (tb8 hb) rfl)) (slt_o (tb8 hb) rfl)) (slt_o (tb8 hb) rfl)) (slt_o (tb8 hb) rfl)) (slt_o (tb8 hb) rfl))))) (bxk hc 8 rfl) (tb8 hc) rfl (bxr hc 12 rfl) <| w_f b36 d36_89 rfl rfl rfl <| w_f b36 d36_90 rfl rfl rfl <| w_gr b36 d36_91 rfl rfl (Sh_sCp (Sh_sCp (Sh_sCp (Sh_sI (Sh_sI (Sh_sI (Sh_sI (Sh_sI hs (slt_o (tb8 hb) rfl)) (slt_o (tb8 hb) rfl)) (slt_o (tb8 hb) rfl)) (slt_o (tb8 hb) rfl)) (slt_o (tb8 hb) rfl))))) (bxk hb 8 rfl) (tb8 hb) rfl (bxr hb 12 rfl) <| w_f b36 d36_94 rfl rfl rfl <| w_f b36 d36_95 rfl rfl rfl <| w_acpI b36 d36_98 rfl rfl rfl (Sh_sCp (Sh_sCp (Sh_sCp (Sh_sI (Sh_sI (Sh_sI (Sh_sI (Sh_sI hs (slt_o (tb8 hb) rfl)) (slt_o (tb8 hb) rfl)) (slt_o (tb8 hb) rfl)) (slt_o (tb8 hb) rfl)) (slt_o (tb8 hb) rfl))))) (bxk hc 12 rfl) (tb12 hc) (bxk hb 12 rfl) (tb12 hb) ⟨by decide, by decide⟩ ⟨by decide, by decide, by decide⟩ <| w_rv b36 d36_101 r36 (((((((((h _ rfl) _ rfl) _ rfl) _ rfl) _ rfl) _ rfl) _ rfl) _ rfl) _ rfl)
theorem e36 {w : PW} {Q : PO → PW → Prop} {b : Nat} {c : Nat} (hs : Sh w) (hb : bx b) (hc : bx c) (h : ∀ w1 : PW, w1 = sI w (b + 8) 0 (gI w (c + 8) 0) → ∀ w2 : PW, w2 = sI w1 (b + 8) 1 (gI w1 (c + 8) 1) → ∀ w3 : PW, w3 = sI w2 (b + 8) 2 (gI w2 (c + 8) 2) → ∀ w4 : PW, w4 = sI w3 (b + 8) 3 (gI w3 (c + 8) 3) → ∀ w5 : PW, w5 = sI w4 (b + 8) 4 (gI w4 (c + 8) 4) → ∀ w6 : PW, w6 = sCp w5 (c + 9) (b + 9) 12 → ∀ w7 : PW, w7 = sCp w6 (c + 10) (b + 10) 12 → ∀ w8 : PW, w8 = sCp w7 (c + 11) (b + 11) 12 → ∀ w9 : PW, w9 = sCp w8 (c + 12) (b + 12) 400 → Q (.inl none) w9) : pC 36 [.ref (b + 8), .ref (c + 8)] w Q :=
  (pC_in (Nat.le_of_ble_eq_true rfl) rfl Q).mpr (v36_0 hs hb hc h)
/-! 37: PinBarrel$Box.copyFrom(LPinBarrel$Box;)V -/
theorem b37 : mB 37 = cX0_copyFrom := rfl
theorem r37 : mR 37 = none := rfl
theorem p37 (a b : Nat) : phi 37 a ≤ phi 37 b := Nat.le_refl 0
theorem d37_0 : decode cX0_copyFrom 0 = .ok (.aload_n 0, 1) := by decide +kernel
theorem d37_1 : decode cX0_copyFrom 1 = .ok (.aload_n 1, 1) := by decide +kernel
theorem d37_2 : decode cX0_copyFrom 2 = .ok (.getfield 9, 3) := by decide +kernel
theorem d37_5 : decode cX0_copyFrom 5 = .ok (.putfield 9, 3) := by decide +kernel
theorem d37_8 : decode cX0_copyFrom 8 = .ok (.aload_n 0, 1) := by decide +kernel
theorem d37_9 : decode cX0_copyFrom 9 = .ok (.aload_n 1, 1) := by decide +kernel
theorem d37_10 : decode cX0_copyFrom 10 = .ok (.getfield 15, 3) := by decide +kernel
theorem d37_13 : decode cX0_copyFrom 13 = .ok (.putfield 15, 3) := by decide +kernel
theorem d37_16 : decode cX0_copyFrom 16 = .ok (.aload_n 0, 1) := by decide +kernel
theorem d37_17 : decode cX0_copyFrom 17 = .ok (.aload_n 1, 1) := by decide +kernel
theorem d37_18 : decode cX0_copyFrom 18 = .ok (.getfield 18, 3) := by decide +kernel
theorem d37_21 : decode cX0_copyFrom 21 = .ok (.putfield 18, 3) := by decide +kernel
theorem d37_24 : decode cX0_copyFrom 24 = .ok (.aload_n 0, 1) := by decide +kernel
theorem d37_25 : decode cX0_copyFrom 25 = .ok (.aload_n 1, 1) := by decide +kernel
theorem d37_26 : decode cX0_copyFrom 26 = .ok (.getfield 21, 3) := by decide +kernel
theorem d37_29 : decode cX0_copyFrom 29 = .ok (.putfield 21, 3) := by decide +kernel
theorem d37_32 : decode cX0_copyFrom 32 = .ok (.aload_n 0, 1) := by decide +kernel
theorem d37_33 : decode cX0_copyFrom 33 = .ok (.aload_n 1, 1) := by decide +kernel
theorem d37_34 : decode cX0_copyFrom 34 = .ok (.getfield 24, 3) := by decide +kernel
theorem d37_37 : decode cX0_copyFrom 37 = .ok (.putfield 24, 3) := by decide +kernel
theorem d37_40 : decode cX0_copyFrom 40 = .ok (.aload_n 1, 1) := by decide +kernel
theorem d37_41 : decode cX0_copyFrom 41 = .ok (.getfield 27, 3) := by decide +kernel
theorem d37_44 : decode cX0_copyFrom 44 = .ok (.iconst 0, 1) := by decide +kernel
theorem d37_45 : decode cX0_copyFrom 45 = .ok (.aload_n 0, 1) := by decide +kernel
theorem d37_46 : decode cX0_copyFrom 46 = .ok (.getfield 27, 3) := by decide +kernel
theorem d37_49 : decode cX0_copyFrom 49 = .ok (.iconst 0, 1) := by decide +kernel
theorem d37_50 : decode cX0_copyFrom 50 = .ok (.bipush 12, 2) := by decide +kernel
theorem d37_52 : decode cX0_copyFrom 52 = .ok (.invokestatic 52, 3) := by decide +kernel
theorem d37_55 : decode cX0_copyFrom 55 = .ok (.aload_n 1, 1) := by decide +kernel
theorem d37_56 : decode cX0_copyFrom 56 = .ok (.getfield 31, 3) := by decide +kernel
theorem d37_59 : decode cX0_copyFrom 59 = .ok (.iconst 0, 1) := by decide +kernel
theorem d37_60 : decode cX0_copyFrom 60 = .ok (.aload_n 0, 1) := by decide +kernel
theorem d37_61 : decode cX0_copyFrom 61 = .ok (.getfield 31, 3) := by decide +kernel
theorem d37_64 : decode cX0_copyFrom 64 = .ok (.iconst 0, 1) := by decide +kernel
theorem d37_65 : decode cX0_copyFrom 65 = .ok (.bipush 12, 2) := by decide +kernel
theorem d37_67 : decode cX0_copyFrom 67 = .ok (.invokestatic 52, 3) := by decide +kernel
theorem d37_70 : decode cX0_copyFrom 70 = .ok (.aload_n 1, 1) := by decide +kernel
theorem d37_71 : decode cX0_copyFrom 71 = .ok (.getfield 34, 3) := by decide +kernel
theorem d37_74 : decode cX0_copyFrom 74 = .ok (.iconst 0, 1) := by decide +kernel
theorem d37_75 : decode cX0_copyFrom 75 = .ok (.aload_n 0, 1) := by decide +kernel
theorem d37_76 : decode cX0_copyFrom 76 = .ok (.getfield 34, 3) := by decide +kernel
theorem d37_79 : decode cX0_copyFrom 79 = .ok (.iconst 0, 1) := by decide +kernel
theorem d37_80 : decode cX0_copyFrom 80 = .ok (.bipush 36, 2) := by decide +kernel
theorem d37_82 : decode cX0_copyFrom 82 = .ok (.invokestatic 52, 3) := by decide +kernel
theorem d37_85 : decode cX0_copyFrom 85 = .ok (.aload_n 0, 1) := by decide +kernel
theorem d37_86 : decode cX0_copyFrom 86 = .ok (.getfield 41, 3) := by decide +kernel
theorem d37_89 : decode cX0_copyFrom 89 = .ok (.aload_n 1, 1) := by decide +kernel
theorem d37_90 : decode cX0_copyFrom 90 = .ok (.getfield 41, 3) := by decide +kernel
theorem d37_93 : decode cX0_copyFrom 93 = .ok (.invokevirtual 58, 3) := by decide +kernel
theorem d37_96 : decode cX0_copyFrom 96 = .ok (.aload_n 0, 1) := by decide +kernel
theorem d37_97 : decode cX0_copyFrom 97 = .ok (.getfield 48, 3) := by decide +kernel
theorem d37_100 : decode cX0_copyFrom 100 = .ok (.aload_n 1, 1) := by decide +kernel
theorem d37_101 : decode cX0_copyFrom 101 = .ok (.getfield 48, 3) := by decide +kernel
theorem d37_104 : decode cX0_copyFrom 104 = .ok (.invokevirtual 62, 3) := by decide +kernel
theorem d37_107 : decode cX0_copyFrom 107 = .ok (.return_, 1) := by decide +kernel
theorem v37_0 {w : PW} {Q : PO → PW → Prop} {b : Nat} {c : Nat} (hs : Sh w) (hb : bx b) (hc : bx c) (h : ∀ w1 : PW, w1 = sI w b 0 (gI w c 0) → ∀ w2 : PW, w2 = sI w1 b 1 (gI w1 c 1) → ∀ w3 : PW, w3 = sI w2 b 2 (gI w2 c 2) → ∀ w4 : PW, w4 = sI w3 b 3 (gI w3 c 3) → ∀ w5 : PW, w5 = sI w4 b 4 (gI w4 c 4) → ∀ w6 : PW, w6 = sCp w5 (c + 1) (b + 1) 12 → ∀ w7 : PW, w7 = sCp w6 (c + 2) (b + 2) 12 → ∀ w8 : PW, w8 = sCp w7 (c + 3) (b + 3) 36 → pC 35 [.ref (b + 4), .ref (c + 4)] w8 (kV fun w9 => Sh w9 ∧ pC 36 [.ref (b + 8), .ref (c + 8)] w9 (kV fun w11 => Sh w11 ∧ Q (.inl none) w11))) : pX 37 0 [some (.ref b), some (.ref c)] [] w Q :=
  w_f b37 d37_0 rfl rfl rfl <| w_f b37 d37_1 rfl rfl rfl <| w_gi b37 d37_2 rfl rfl hs (bx00 hc) (tb0 hc) rfl <| w_pi b37 d37_5 rfl rfl hs (bx00 hb) (tb0 hb) rfl rfl rfl <| w_f b37 d37_8 rfl rfl rfl <| w_f b37 d37_9 rfl rfl rfl <| w_gi b37 d37_10 rfl rfl (Sh_sI hs (slt_o (tb0 hb) rfl)) (bx00 hc) (tb0 hc) rfl <| w_pi b37 d37_13 rfl rfl (Sh_sI hs (slt_o (tb0 hb) rfl)) (bx00 hb) (tb0 hb) rfl rfl rfl <| w_f b37 d37_16 rfl rfl rfl <| w_f b37 d37_17 rfl rfl rfl <| w_gi b37 d37_18 rfl rfl (Sh_sI (Sh_sI hs (slt_o (tb0 hb) rfl)) (slt_o (tb0 hb) rfl)) (bx00 hc) (tb0 hc) rfl <| w_pi b37 d37_21 rfl rfl (Sh_sI (Sh_sI hs (slt_o (tb0 hb) rfl)) (slt_o (tb0 hb) rfl)) (bx00 hb) (tb0 hb) rfl rfl rfl <| w_f b37 d37_24 rfl rfl rfl <| w_f b37 d37_25 rfl rfl rfl <| w_gi b37 d37_26 rfl rfl (Sh_sI (Sh_sI (Sh_sI hs (slt_o (tb0 hb) rfl)) (slt_o (tb0 hb) rfl)) (slt_o (tb0 hb) rfl)) (bx00 hc) (tb0 hc) rfl <| w_pi b37 d37_29 rfl rfl (Sh_sI (Sh_sI (Sh_sI hs (slt_o (tb0 hb) rfl)) (slt_o (tb0 hb) rfl)) (slt_o (tb0 hb) rfl)) (bx00 hb) (tb0 hb) rfl rfl rfl <| w_f b37 d37_32 rfl rfl rfl <| w_f b37 d37_33 rfl rfl rfl <| w_gi b37 d37_34 rfl rfl (Sh_sI (Sh_sI (Sh_sI (Sh_sI hs (slt_o (tb0 hb) rfl)) (slt_o (tb0 hb) rfl)) (slt_o (tb0 hb) rfl)) (slt_o (tb0 hb) rfl)) (bx00 hc) (tb0 hc) rfl <| w_pi b37 d37_37 rfl rfl (Sh_sI (Sh_sI (Sh_sI (Sh_sI hs (slt_o (tb0 hb) rfl)) (slt_o (tb0 hb) rfl)) (slt_o (tb0 hb) rfl)) (slt_o (tb0 hb) rfl)) (bx00 hb) (tb0 hb) rfl rfl rfl <| w_f b37 d37_40 rfl rfl rfl <| w_gr b37 d37_41 rfl rfl (Sh_sI (Sh_sI (Sh_sI (Sh_sI (Sh_sI hs (slt_o (tb0 hb) rfl)) (slt_o (tb0 hb) rfl)) (slt_o (tb0 hb) rfl)) (slt_o (tb0 hb) rfl)) (slt_o (tb0 hb) rfl)) (bx00 hc) (tb0 hc) rfl (bxr hc 1 rfl) <| w_f b37 d37_44 rfl rfl rfl <| w_f b37 d37_45 rfl rfl rfl <| w_gr b37 d37_46 rfl rfl (Sh_sI (Sh_sI (Sh_sI (Sh_sI (Sh_sI hs (slt_o (tb0 hb) rfl)) (slt_o (tb0 hb) rfl)) (slt_o (tb0 hb) rfl)) (slt_o (tb0 hb) rfl)) (slt_o (tb0 hb) rfl)) (bx00 hb) (tb0 hb) rfl (bxr hb 1 rfl) <| w_f b37 d37_49 rfl rfl rfl <| w_f b37 d37_50 rfl rfl rfl <| w_acpI b37 d37_52 rfl rfl rfl (Sh_sI (Sh_sI (Sh_sI (Sh_sI (Sh_sI hs (slt_o (tb0 hb) rfl)) (slt_o (tb0 hb) rfl)) (slt_o (tb0 hb) rfl)) (slt_o (tb0 hb) rfl)) (slt_o (tb0 hb) rfl)) (bxk hc 1 rfl) (tb1 hc) (bxk hb 1 rfl) (tb1 hb) ⟨by decide, by decide⟩ ⟨by decide, by decide, by decide⟩ <| w_f b37 d37_55 rfl rfl rfl <| w_gr b37 d37_56 rfl rfl (Sh_sCp (Sh_sI (Sh_sI (Sh_sI (Sh_sI (Sh_sI hs (slt_o (tb0 hb) rfl)) (slt_o (tb0 hb) rfl)) (slt_o (tb0 hb) rfl)) (slt_o (tb0 hb) rfl)) (slt_o (tb0 hb) rfl))) (bx00 hc) (tb0 hc) rfl (bxr hc 2 rfl) <| w_f b37 d37_59 rfl rfl rfl <| w_f b37 d37_60 rfl rfl rfl <| w_gr b37 d37_61 rfl rfl (Sh_sCp (Sh_sI (Sh_sI (Sh_sI (Sh_sI (Sh_sI hs (slt_o (tb0 hb) rfl)) (slt_o (tb0 hb) rfl)) (slt_o (tb0 hb) rfl)) (slt_o (tb0 hb) rfl)) (slt_o (tb0 hb) rfl))) (bx00 hb) (tb0 hb) rfl (bxr hb 2 rfl) <| w_f b37 d37_64 rfl rfl rfl <| w_f b37 d37_65 rfl rfl rfl <| w_acpI b37 d37_67 rfl rfl rfl (Sh_sCp (Sh_sI (Sh_sI (Sh_sI (Sh_sI (Sh_sI hs (slt_o (tb0 hb) rfl)) (slt_o (tb0 hb) rfl)) (slt_o (tb0 hb) rfl)) (slt_o (tb0 hb) rfl)) (slt_o (tb0 hb) rfl))) (bxk hc 2 rfl) (tb2 hc) (bxk hb 2 rfl) (tb2 hb) ⟨by decide, by decide⟩ ⟨by decide, by decide, by decide⟩ <| w_f b37 d37_70 rfl rfl rfl <| w_gr b37 d37_71 rfl rfl (Sh_sCp (Sh_sCp (Sh_sI (Sh_sI (Sh_sI (Sh_sI (Sh_sI hs (slt_o (tb0 hb) rfl)) (slt_o (tb0 hb) rfl)) (slt_o (tb0 hb) rfl)) (slt_o (tb0 hb) rfl)) (slt_o (tb0 hb) rfl)))) (bx00 hc) (tb0 hc) rfl (bxr hc 3 rfl) <| w_f b37 d37_74 rfl rfl rfl <| w_f b37 d37_75 rfl rfl rfl <| w_gr b37 d37_76 rfl rfl (Sh_sCp (Sh_sCp (Sh_sI (Sh_sI (Sh_sI (Sh_sI (Sh_sI hs (slt_o (tb0 hb) rfl)) (slt_o (tb0 hb) rfl)) (slt_o (tb0 hb) rfl)) (slt_o (tb0 hb) rfl)) (slt_o (tb0 hb) rfl)))) (bx00 hb) (tb0 hb) rfl (bxr hb 3 rfl) <| w_f b37 d37_79 rfl rfl rfl <| w_f b37 d37_80 rfl rfl rfl <| w_acpL b37 d37_82 rfl rfl rfl (Sh_sCp (Sh_sCp (Sh_sI (Sh_sI (Sh_sI (Sh_sI (Sh_sI hs (slt_o (tb0 hb) rfl)) (slt_o (tb0 hb) rfl)) (slt_o (tb0 hb) rfl)) (slt_o (tb0 hb) rfl)) (slt_o (tb0 hb) rfl)))) (bxk hc 3 rfl) (tb3 hc) (bxk hb 3 rfl) (tb3 hb) ⟨by decide, by decide⟩ ⟨by decide, by decide, by decide⟩ <| w_f b37 d37_85 rfl rfl rfl <| w_gr b37 d37_86 rfl rfl (Sh_sCp (Sh_sCp (Sh_sCp (Sh_sI (Sh_sI (Sh_sI (Sh_sI (Sh_sI hs (slt_o (tb0 hb) rfl)) (slt_o (tb0 hb) rfl)) (slt_o (tb0 hb) rfl)) (slt_o (tb0 hb) rfl)) (slt_o (tb0 hb) rfl))))) (bx00 hb) (tb0 hb) rfl (bxr hb 4 rfl) <| w_f b37 d37_89 rfl rfl rfl <| w_gr b37 d37_90 rfl rfl (Sh_sCp (Sh_sCp (Sh_sCp (Sh_sI (Sh_sI (Sh_sI (Sh_sI (Sh_sI hs (slt_o (tb0 hb) rfl)) (slt_o (tb0 hb) rfl)) (slt_o (tb0 hb) rfl)) (slt_o (tb0 hb) rfl)) (slt_o (tb0 hb) rfl))))) (bx00 hc) (tb0 hc) rfl (bxr hc 4 rfl) <| w_c b37 d37_93 rfl (pcl_v (n := 1) rfl rfl rfl (by decide +kernel) (sh_isOb (Sh_sCp (Sh_sCp (Sh_sCp (Sh_sI (Sh_sI (Sh_sI (Sh_sI (Sh_sI hs (slt_o (tb0 hb) rfl)) (slt_o (tb0 hb) rfl)) (slt_o (tb0 hb) rfl)) (slt_o (tb0 hb) rfl)) (slt_o (tb0 hb) rfl))))) (bxk hb 4 rfl) (tb4 hb)) rfl rfl) rfl _ (hK_V fun w9 hkw9 => w_f b37 d37_96 rfl rfl rfl <| w_gr b37 d37_97 rfl rfl hkw9.1 (bx00 hb) (tb0 hb) rfl (bxr hb 8 rfl) <| w_f b37 d37_100 rfl rfl rfl <| w_gr b37 d37_101 rfl rfl hkw9.1 (bx00 hc) (tb0 hc) rfl (bxr hc 8 rfl) <| w_c b37 d37_104 rfl (pcl_v (n := 1) rfl rfl rfl (by decide +kernel) (sh_isOb hkw9.1 (bxk hb 8 rfl) (tb8 hb)) rfl rfl) rfl _ (hK_V fun w11 hkw11 => w_rv b37 d37_107 r37 hkw11.2) hkw9.2) ((((((((h _ rfl) _ rfl) _ rfl) _ rfl) _ rfl) _ rfl) _ rfl) _ rfl)
theorem e37 {w : PW} {Q : PO → PW → Prop} {b : Nat} {c : Nat} (hs : Sh w) (hb : bx b) (hc : bx c) (h : ∀ w1 : PW, w1 = sI w b 0 (gI w c 0) → ∀ w2 : PW, w2 = sI w1 b 1 (gI w1 c 1) → ∀ w3 : PW, w3 = sI w2 b 2 (gI w2 c 2) → ∀ w4 : PW, w4 = sI w3 b 3 (gI w3 c 3) → ∀ w5 : PW, w5 = sI w4 b 4 (gI w4 c 4) → ∀ w6 : PW, w6 = sCp w5 (c + 1) (b + 1) 12 → ∀ w7 : PW, w7 = sCp w6 (c + 2) (b + 2) 12 → ∀ w8 : PW, w8 = sCp w7 (c + 3) (b + 3) 36 → pC 35 [.ref (b + 4), .ref (c + 4)] w8 (kV fun w9 => Sh w9 ∧ pC 36 [.ref (b + 8), .ref (c + 8)] w9 (kV fun w11 => Sh w11 ∧ Q (.inl none) w11))) : pC 37 [.ref b, .ref c] w Q :=
  (pC_in (Nat.le_of_ble_eq_true rfl) rfl Q).mpr (v37_0 hs hb hc h)
theorem c35 {w : PW} {Q : PO → PW → Prop} {b c : Nat} (hs : Sh w) (hb : bx b) (hc : bx c) (hne : b ≠ c) (hn : 0 ≤ gI w (c + 4) 0 ∧ gI w (c + 4) 0 ≤ 60) (h : ∀ w', Sh w' → gI w' (b + 4) 0 = gI w (c + 4) 0 → (∀ i : Nat, (i : Int) < gI w (c + 4) 0 → gI w' (b + 5) i = gI w (c + 5) i ∧ gI w' (b + 6) i = gI w (c + 6) i ∧ gI w' (b + 7) i = gI w (c + 7) i) → (∀ c, ¬ (b + 4 ≤ c ∧ c ≤ b + 7) → w'.2.2 c = w.2.2 c) → Q (.inl none) w') : pC 35 [.ref (b + 4), .ref (c + 4)] w Q := by
  have hd := bx_ne hb hc hne
  have a0 := bx_lt hb
  have a1 := bx_lt hc
  refine e35 hs hb hc (fun w1 e1 => ?_)
  obtain ⟨s1, g1, -, k1⟩ := stI e1 hs (by omega) (slt_o (tb4 hb) rfl) (bd_gI _ _ _)
  have n1 : gI w1 (b + 4) 0 = gI w (c + 4) 0 := by rw [g1, if_pos ⟨rfl, rfl⟩]
  rw [n1]
  refine ⟨⟨hn.1, hn.2, hn.2⟩, fun w2 e2 => ?_⟩
  obtain ⟨s2, g2, -, k2⟩ := stC e2 s1 (by omega) (tb5 hc) (by omega) (tb5 hb)
  have n2 : gI w2 (b + 4) 0 = gI w (c + 4) 0 := by rw [g2, if_neg (by omega), n1]
  rw [n2]
  refine ⟨⟨hn.1, hn.2, hn.2⟩, fun w3 e3 => ?_⟩
  obtain ⟨s3, g3, -, k3⟩ := stC e3 s2 (by omega) (tb6 hc) (by omega) (tb6 hb)
  have n3 : gI w3 (b + 4) 0 = gI w (c + 4) 0 := by rw [g3, if_neg (by omega), n2]
  rw [n3]
  refine ⟨⟨hn.1, hn.2, hn.2⟩, fun w4 e4 => ?_⟩
  obtain ⟨s4, g4, -, k4⟩ := stC e4 s3 (by omega) (tb7 hc) (by omega) (tb7 hb)
  refine h w4 s4 ?_ (fun i hi => ⟨?_, ?_, ?_⟩) (fun a ha => ?_)
  · rw [g4, if_neg (by omega), n3]
  · rw [g4, if_neg (by omega), g3, if_neg (by omega), g2, if_pos ⟨rfl, by omega⟩, g1, if_neg (by omega)]
  · rw [g4, if_neg (by omega), g3, if_pos ⟨rfl, by omega⟩, g2, if_neg (by omega), g1, if_neg (by omega)]
  · rw [g4, if_pos ⟨rfl, by omega⟩, g3, if_neg (by omega), g2, if_neg (by omega), g1, if_neg (by omega)]
  · rw [k4 a (by omega), k3 a (by omega), k2 a (by omega), k1 a (by omega)]
theorem c36 {w : PW} {Q : PO → PW → Prop} {b c : Nat} (hs : Sh w) (hb : bx b) (hc : bx c) (hne : b ≠ c) (h : ∀ w', Sh w' → (∀ k, k < 5 → gI w' (b + 8) k = gI w (c + 8) k) → (∀ t : Nat, t < 12 → gI w' (b + 9) t = gI w (c + 9) t ∧ gI w' (b + 10) t = gI w (c + 10) t ∧ gI w' (b + 11) t = gI w (c + 11) t) → (∀ k : Nat, k < 400 → gI w' (b + 12) k = gI w (c + 12) k) → (∀ c, ¬ (b + 8 ≤ c ∧ c ≤ b + 12) → w'.2.2 c = w.2.2 c) → Q (.inl none) w') : pC 36 [.ref (b + 8), .ref (c + 8)] w Q := by
  have hd := bx_ne hb hc hne
  have a0 := bx_lt hb
  have a1 := bx_lt hc
  refine e36 hs hb hc (fun w1 e1 w2 e2 w3 e3 w4 e4 w5 e5 w6 e6 w7 e7 w8 e8 w9 e9 => ?_)
  obtain ⟨s1, g1, -, k1⟩ := stI e1 hs (by omega) (slt_o (tb8 hb) rfl) (bd_gI _ _ _)
  obtain ⟨s2, g2, -, k2⟩ := stI e2 s1 (by omega) (slt_o (tb8 hb) rfl) (bd_gI _ _ _)
  obtain ⟨s3, g3, -, k3⟩ := stI e3 s2 (by omega) (slt_o (tb8 hb) rfl) (bd_gI _ _ _)
  obtain ⟨s4, g4, -, k4⟩ := stI e4 s3 (by omega) (slt_o (tb8 hb) rfl) (bd_gI _ _ _)
  obtain ⟨s5, g5, -, k5⟩ := stI e5 s4 (by omega) (slt_o (tb8 hb) rfl) (bd_gI _ _ _)
  obtain ⟨s6, g6, -, k6⟩ := stC e6 s5 (by omega) (tb9 hc) (by omega) (tb9 hb)
  obtain ⟨s7, g7, -, k7⟩ := stC e7 s6 (by omega) (tb10 hc) (by omega) (tb10 hb)
  obtain ⟨s8, g8, -, k8⟩ := stC e8 s7 (by omega) (tb11 hc) (by omega) (tb11 hb)
  obtain ⟨s9, g9, -, k9⟩ := stC e9 s8 (by omega) (tb12 hc) (by omega) (tb12 hb)
  have o5 : ∀ a j, ¬ (a = b + 8) → gI w5 a j = gI w a j := fun a j ha => by rw [g5, if_neg (by omega), g4, if_neg (by omega), g3, if_neg (by omega), g2, if_neg (by omega), g1, if_neg (by omega)]
  refine h w9 s9 (fun k hk => ?_) (fun t ht => ⟨?_, ?_, ?_⟩) (fun k hk => ?_) (fun a ha => ?_)
  · rw [g9, if_neg (by omega), g8, if_neg (by omega), g7, if_neg (by omega), g6, if_neg (by omega)]
    have hk5 : k = 0 ∨ k = 1 ∨ k = 2 ∨ k = 3 ∨ k = 4 := by omega
    rcases hk5 with rfl | rfl | rfl | rfl | rfl
    · rw [g5, if_neg (by omega), g4, if_neg (by omega), g3, if_neg (by omega), g2, if_neg (by omega), g1, if_pos ⟨rfl, rfl⟩]
    · rw [g5, if_neg (by omega), g4, if_neg (by omega), g3, if_neg (by omega), g2, if_pos ⟨rfl, rfl⟩, g1, if_neg (by omega)]
    · rw [g5, if_neg (by omega), g4, if_neg (by omega), g3, if_pos ⟨rfl, rfl⟩, g2, if_neg (by omega), g1, if_neg (by omega)]
    · rw [g5, if_neg (by omega), g4, if_pos ⟨rfl, rfl⟩, g3, if_neg (by omega), g2, if_neg (by omega), g1, if_neg (by omega)]
    · rw [g5, if_pos ⟨rfl, rfl⟩, g4, if_neg (by omega), g3, if_neg (by omega), g2, if_neg (by omega), g1, if_neg (by omega)]
  · rw [g9, if_neg (by omega), g8, if_neg (by omega), g7, if_neg (by omega), g6, if_pos ⟨rfl, ht⟩, o5 _ _ (by omega)]
  · rw [g9, if_neg (by omega), g8, if_neg (by omega), g7, if_pos ⟨rfl, ht⟩, g6, if_neg (by omega), o5 _ _ (by omega)]
  · rw [g9, if_neg (by omega), g8, if_pos ⟨rfl, ht⟩, g7, if_neg (by omega), g6, if_neg (by omega), o5 _ _ (by omega)]
  · rw [g9, if_pos ⟨rfl, hk⟩, g8, if_neg (by omega), g7, if_neg (by omega), g6, if_neg (by omega), o5 _ _ (by omega)]
  · rw [k9 a (by omega), k8 a (by omega), k7 a (by omega), k6 a (by omega), k5 a (by omega), k4 a (by omega), k3 a (by omega), k2 a (by omega), k1 a (by omega)]
theorem c37 {w : PW} {Q : PO → PW → Prop} {b c : Nat} {m : Row} (hs : Sh w) (hb : bx b) (hC : BR w c m) (hne : b ≠ c) (h : ∀ w', Sh w' → BR w' b m → OB b w w' → Q (.inl none) w') : pC 37 [.ref b, .ref c] w Q := by
  have hc := hC.bx
  have hd := bx_ne hb hc hne
  have a0 := bx_lt hb
  have a1 := bx_lt hc
  have h4 := hC.ok.t
  have h5 := hC.ok.n
  refine e37 hs hb hc (fun w1 e1 w2 e2 w3 e3 w4 e4 w5 e5 w6 e6 w7 e7 w8 e8 => ?_)
  obtain ⟨s1, g1, l1, k1⟩ := stI e1 hs (by omega) (slt_o (tb0 hb) rfl) (bd_gI _ _ _)
  obtain ⟨s2, g2, l2, k2⟩ := stI e2 s1 (by omega) (slt_o (tb0 hb) rfl) (bd_gI _ _ _)
  obtain ⟨s3, g3, l3, k3⟩ := stI e3 s2 (by omega) (slt_o (tb0 hb) rfl) (bd_gI _ _ _)
  obtain ⟨s4, g4, l4, k4⟩ := stI e4 s3 (by omega) (slt_o (tb0 hb) rfl) (bd_gI _ _ _)
  obtain ⟨s5, g5, l5, k5⟩ := stI e5 s4 (by omega) (slt_o (tb0 hb) rfl) (bd_gI _ _ _)
  obtain ⟨s6, g6, l6, k6⟩ := stC e6 s5 (by omega) (tb1 hc) (by omega) (tb1 hb)
  obtain ⟨s7, g7, l7, k7⟩ := stC e7 s6 (by omega) (tb2 hc) (by omega) (tb2 hb)
  obtain ⟨s8, l8, g8, k8⟩ := stD e8 s7 (by omega) (tb3 hc) (by omega) (tb3 hb)
  have o5 : ∀ a j, ¬ (a = b) → gI w5 a j = gI w a j := fun a j ha => by rw [g5, if_neg (by omega), g4, if_neg (by omega), g3, if_neg (by omega), g2, if_neg (by omega), g1, if_neg (by omega)]
  have o8 : ∀ a, ¬ (a = b ∨ a = b + 1 ∨ a = b + 2 ∨ a = b + 3) → w8.2.2 a = w.2.2 a := fun a ha => by rw [k8 a (by omega), k7 a (by omega), k6 a (by omega), k5 a (by omega), k4 a (by omega), k3 a (by omega), k2 a (by omega), k1 a (by omega)]
  have q8 : ∀ a j, ¬ (a = b ∨ a = b + 1 ∨ a = b + 2 ∨ a = b + 3) → gI w8 a j = gI w a j := fun a j ha => gI_cell (o8 a ha) j
  refine c35 s8 hb hc hne (by rw [q8 _ _ (by omega), hC.n]; exact h5) (fun w9 s9 n9 t9 o9 => ⟨s9, ?_⟩)
  rw [q8 _ _ (by omega)] at n9 t9
  refine c36 s9 hb hc hne (fun w10 s10 p10 t10 m10 o10 => ⟨s10, ?_⟩)
  have z : ∀ a, ¬ (b + 4 ≤ a ∧ a < b + 13) → w10.2.2 a = w8.2.2 a := fun a ha => by rw [o10 a (by omega), o9 a (by omega)]
  have y : ∀ a j, ¬ (b + 4 ≤ a ∧ a < b + 13) → gI w10 a j = gI w8 a j := fun a j ha => gI_cell (z a ha) j
  have x : ∀ a j, ¬ (b + 4 ≤ a ∧ a < b + 8) → ¬ (a = b ∨ a = b + 1 ∨ a = b + 2 ∨ a = b + 3) → gI w9 a j = gI w a j := fun a j h1 h2 => by rw [gI_cell (o9 a (by omega)) j, q8 a j h2]
  refine h w10 s10 ⟨hb, hC.ok, ⟨?_, ?_, ?_, ?_, ?_⟩, fun t ht => ?_, ?_, fun i hi => ?_, ⟨?_, ?_, ?_, ?_, ?_⟩, fun k hk hk2 => ?_, fun j s hj hs9 => ?_⟩ (fun a ha => ?_)
  · rw [y _ _ (by omega), g8, g7, if_neg (by omega), g6, if_neg (by omega), g5, if_neg (by omega), g4, if_neg (by omega), g3, if_neg (by omega), g2, if_neg (by omega), g1, if_pos ⟨rfl, rfl⟩, hC.s]
  · rw [y _ _ (by omega), g8, g7, if_neg (by omega), g6, if_neg (by omega), g5, if_neg (by omega), g4, if_neg (by omega), g3, if_neg (by omega), g2, if_pos ⟨rfl, rfl⟩, g1, if_neg (by omega), hC.u]
  · rw [y _ _ (by omega), g8, g7, if_neg (by omega), g6, if_neg (by omega), g5, if_neg (by omega), g4, if_neg (by omega), g3, if_pos ⟨rfl, rfl⟩, g2, if_neg (by omega), g1, if_neg (by omega), hC.g]
  · rw [y _ _ (by omega), g8, g7, if_neg (by omega), g6, if_neg (by omega), g5, if_neg (by omega), g4, if_pos ⟨rfl, rfl⟩, g3, if_neg (by omega), g2, if_neg (by omega), g1, if_neg (by omega), hC.v]
  · rw [y _ _ (by omega), g8, g7, if_neg (by omega), g6, if_neg (by omega), g5, if_pos ⟨rfl, rfl⟩, g4, if_neg (by omega), g3, if_neg (by omega), g2, if_neg (by omega), g1, if_neg (by omega), hC.t]
  · obtain ⟨f1, f2, f3, f4, f5⟩ := hC.T ht
    obtain ⟨v1, v2, v3⟩ := t10 t (by omega)
    rw [v1, v2, v3, x _ _ (by omega) (by omega), x _ _ (by omega) (by omega), x _ _ (by omega) (by omega), y _ _ (by omega), y _ _ (by omega), g8, g8, g7, if_neg (by omega), g7, if_pos ⟨rfl, by omega⟩, g6, if_pos ⟨rfl, by omega⟩, g6, if_neg (by omega), o5 _ _ (by omega), o5 _ _ (by omega)]
    exact ⟨f1, f2, f3, f4, f5⟩
  · rw [gI_cell (o10 (b + 4) (by omega)), n9, hC.n]
  · obtain ⟨f1, f2, f3⟩ := hC.N hi
    obtain ⟨v1, v2, v3⟩ := t9 i (by rw [hC.n]; exact hi)
    rw [gI_cell (o10 (b + 5) (by omega)), gI_cell (o10 (b + 6) (by omega)), gI_cell (o10 (b + 7) (by omega)), v1, v2, v3, q8 _ _ (by omega), q8 _ _ (by omega), q8 _ _ (by omega)]
    exact ⟨f1, f2, f3⟩
  · rw [p10 0 (by decide), x _ _ (by omega) (by omega), hC.pu]
  · rw [p10 1 (by decide), x _ _ (by omega) (by omega), hC.ps]
  · rw [p10 2 (by decide), x _ _ (by omega) (by omega), hC.pt]
  · rw [p10 3 (by decide), x _ _ (by omega) (by omega), hC.pp]
  · rw [p10 4 (by decide), x _ _ (by omega) (by omega), hC.pb]
  · rw [m10 k hk, x _ _ (by omega) (by omega), hC.M hk hk2]
  · rw [gL_cell (z (b + 3) (by omega)), l8, if_pos ⟨rfl, hj⟩, l7, l6, l5, l4, l3, l2, l1, hC.P hj hs9]
  · rw [z a (by omega), o8 a (by omega)]

