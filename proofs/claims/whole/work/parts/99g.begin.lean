/-! THE MODEL's begin, and its constructor -/
theorem b216 : mB 216 = cX9_init := rfl
section BEG
variable {w : PW} {f : Nat → Int32} {Q : PO → PW → Prop} {S : List Value}
theorem b_gf (h9 : pgf w 169 8 1 = some (.ref 170)) : pld 215 (.getfield 9) (.ref 169 :: S) w = some (3, .ref 170 :: S, w) := by
  unfold pld
  dsimp only
  rw [show plk 9 (kF (mC 215)) = some (8, 1) from rfl]
  dsimp only
  rw [h9]
theorem b_ia {x z : Int} (h0 : w.2.2 170 = .inl (0, 843, .inl f)) (hz : 0 ≤ z ∧ z < 843) : psw 215 .iastore (iv x :: iv z :: .ref 170 :: S) w = some (1, S, pup w 170 (.inl (0, 843, .inl (upd f z.toNat (Int32.ofInt x))))) := by
  obtain ⟨h1, h2⟩ := iv_idx (n := 843) (z := z) ⟨by omega, by omega⟩ hz
  unfold psw
  dsimp only
  rw [pai_of h0]
  dsimp only
  rw [if_neg h1, h2]
/-- a zero into zeros -/
theorem b_z {k : Nat} (h0 : w.2.2 170 = .inl (0, 843, .inl f)) (hz : f k = 0) : pup w 170 (.inl (0, 843, .inl (upd f k (Int32.ofInt 0)))) = w := by
  have e : upd f k (Int32.ofInt 0) = f := by
    funext j
    unfold upd
    by_cases q : j = k
    · rw [if_pos q, q, hz]
      rfl
    · rw [if_neg q]
  rw [e]
  have e2 : va_up w.2.2 170 (.inl (0, 843, .inl f)) = w.2.2 := by
    funext j
    unfold va_up
    by_cases q : j = 170
    · rw [if_pos q, q, h0]
    · rw [if_neg q]
  show (w.1, w.2.1, va_up w.2.2 170 (.inl (0, 843, .inl f))) = w
  rw [e2]
theorem b_loop (h9 : pgf w 169 8 1 = some (.ref 170)) (h0 : w.2.2 170 = .inl (0, 843, .inl f)) (hz : ∀ k, k < 843 → f k = 0) {L0 : Value} {x1 x2 x3 : Int} (h : pX 215 25 [some (.ref 169), some (iv x1), some (iv x2), some (iv x3), some (iv 843)] [] w Q) : ∀ n k : Nat, k + n = 843 → pX 215 3 [some (.ref 169), some (iv x1), some (iv x2), some (iv x3), some (iv (k : Int))] [] w Q := by
  intro n
  induction n with
  | zero =>
    intro k hk
    obtain rfl : k = 843 := by omega
    exact w_f b215 d215_3 rfl rfl rfl <| w_f b215 d215_5 rfl rfl rfl <| w_icge (y := 843) b215 d215_8 rfl rfl (p215 _ _) ⟨by decide, by decide⟩ ⟨by decide, by decide⟩ (fun _ => h) (fun q => absurd q (by decide))
  | succ n ih =>
    intro k hk
    refine w_f b215 d215_3 rfl rfl rfl <| w_f b215 d215_5 rfl rfl rfl <| w_icge (y := 843) b215 d215_8 rfl rfl (p215 _ _) ⟨by omega, by omega⟩ ⟨by decide, by decide⟩ (fun q => absurd q (by omega)) (fun _ => ?_)
    refine w_f b215 d215_11 rfl rfl rfl <| (pX_l b215 d215_12 rfl (b_gf h9) rfl Q).mpr <| w_f b215 d215_15 rfl rfl rfl <| w_f b215 d215_17 rfl rfl rfl <| (pX_s b215 d215_18 rfl (b_ia (x := 0) (z := (k : Int)) h0 ⟨by omega, by omega⟩) rfl Q).mpr ?_
    rw [Int.toNat_natCast, b_z h0 (hz k (by omega))]
    exact w_f b215 d215_19 rfl (pf_iinc rfl rfl) rfl <| w_j b215 d215_22 rfl (p215 _ _) <| ih (k + 1) (by omega)
theorem pgf_pup {a ci k : Nat} {e : va_E} (h : a ≠ 170) : pgf (pup w 170 e) a ci k = pgf w a ci k := by
  unfold pgf
  rw [show (pup w 170 e).2.2 a = w.2.2 a from if_neg h]
theorem pup_170 {e : va_E} : (pup w 170 e).2.2 170 = e := by
  show (if 170 = 170 then e else w.2.2 170) = e
  exact if_pos rfl
theorem b215L (h9 : pgf w 169 8 1 = some (.ref 170)) (h0 : w.2.2 170 = .inl (0, 843, .inl f)) (hz : ∀ k, k < 843 → f k = 0) (h : ∀ w2 : PW, w2.1 = w.1 → w2.2.1 = w.2.1 → (∀ c, c ≠ 170 → w2.2.2 c = w.2.2 c) → w2.2.2 170 = .inl (0, 843, .inl (upd (upd (upd (upd f 0 8) 1 1) 2 0) 3 1)) → Q (.inl none) w2) : pC 215 [.ref 169, iv 8, iv 1, iv 0] w Q := by
  refine (pC_in (Nat.le_of_ble_eq_true rfl) rfl Q).mpr (w_f b215 d215_0 rfl rfl rfl <| w_f b215 d215_1 rfl rfl rfl <| b_loop (L0 := iv 0) h9 h0 hz ?_ 843 0 rfl)
  refine w_f b215 d215_25 rfl rfl rfl <| (pX_l b215 d215_26 rfl (b_gf h9) rfl Q).mpr <| w_f b215 d215_29 rfl rfl rfl <| w_f b215 d215_30 rfl rfl rfl <| (pX_s b215 d215_31 rfl (b_ia (x := 8) (z := 0) h0 ⟨by decide, by decide⟩) rfl Q).mpr ?_
  refine w_f b215 d215_32 rfl rfl rfl <| (pX_l b215 d215_33 rfl (b_gf ((pgf_pup (by decide)).trans h9)) rfl Q).mpr <| w_f b215 d215_36 rfl rfl rfl <| w_f b215 d215_37 rfl rfl rfl <| (pX_s b215 d215_38 rfl (b_ia (x := 1) (z := 1) pup_170 ⟨by decide, by decide⟩) rfl Q).mpr ?_
  refine w_f b215 d215_39 rfl rfl rfl <| (pX_l b215 d215_40 rfl (b_gf ((pgf_pup (by decide)).trans ((pgf_pup (by decide)).trans h9))) rfl Q).mpr <| w_f b215 d215_43 rfl rfl rfl <| w_f b215 d215_44 rfl rfl rfl <| (pX_s b215 d215_45 rfl (b_ia (x := 0) (z := 2) pup_170 ⟨by decide, by decide⟩) rfl Q).mpr ?_
  refine w_f b215 d215_46 rfl rfl rfl <| (pX_l b215 d215_47 rfl (b_gf ((pgf_pup (by decide)).trans ((pgf_pup (by decide)).trans ((pgf_pup (by decide)).trans h9)))) rfl Q).mpr <| w_f b215 d215_50 rfl rfl rfl <| w_f b215 d215_51 rfl rfl rfl <| (pX_s b215 d215_52 rfl (b_ia (x := 1) (z := 3) pup_170 ⟨by decide, by decide⟩) rfl Q).mpr ?_
  exact w_rv b215 d215_53 r215 (h _ rfl rfl (fun c hc => by
    show va_up (va_up (va_up (va_up w.2.2 170 _) 170 _) 170 _) 170 _ c = _
    unfold va_up
    rw [if_neg hc, if_neg hc, if_neg hc, if_neg hc]) pup_170)
end BEG
theorem r216 : mR 216 = none := rfl
theorem d216_99 : decode cX9_init 99 = .ok (.invokevirtual 46, 3) := by decide +kernel
theorem d216_102 : decode cX9_init 102 = .ok (.return_, 1) := by decide +kernel
