/-! THE LAW, WHOLE, over the pure machine -/
section ALL
variable {M pc idx M' ci a : Nat} {w : PW} {S rest : List Value}
theorem pcl_i2 (hl : plk idx (kM (mC M)) = some (M', 0, 2)) (hok : pok M M' pc = true) (hob : isOb w a (mI M') = true) (hx : mX M' = 0) (hr : Nat.ble rest.length 4 = true) : pcl M pc (.invokespecial idx) (.ref a :: rest) w = some (M', [.ref a], rest) := by
  unfold pcl
  dsimp only
  rw [hl]
  show (if _ then _ else _) = _
  rw [if_pos ⟨hok, hob, Nat.zero_le _, Nat.le_of_ble_eq_true hr, hx⟩]
  rfl
theorem psw_new {k : Nat} (hl : plk idx (kN (mC M)) = some ci) (h1 : w.1 = a) (ha : a < 182) (hk : (oF ci).length = k) : psw M (.new idx) S w = some (3, .ref a :: S, pnw w k (.inr (ci, oF ci))) := by
  subst h1
  subst hk
  unfold psw
  dsimp only
  rw [hl]
  dsimp only
  rw [if_pos (show w.1 < pNA from ha)]
theorem nw_at {k : Nat} {e : va_E} (h1 : w.1 = a) : (pnw w k e).2.2 a = e := by
  show (if a = w.1 then e else w.2.2 a) = e
  rw [if_pos h1.symm]
theorem nw_ne {k c : Nat} {e : va_E} (h1 : w.1 = a) (h : c ≠ a) : (pnw w k e).2.2 c = w.2.2 c := by
  show (if c = w.1 then e else w.2.2 c) = w.2.2 c
  rw [if_neg (by rw [h1]; exact h)]
theorem ob_nw {k : Nat} {fs : List Value} (h1 : w.1 = a) : isOb (pnw w k (.inr (ci, fs))) a ci = true := by
  unfold isOb
  rw [nw_at h1]
  exact Nat.beq_refl ci
theorem psw_nl (h1 : w.1 = a) (ha : a < 182) : psw M (.newarray .long) (iv 1 :: S) w = some (2, .ref a :: S, pnw w 1 (.inl (1, 1, .inr (.inl (fun _ => 0))))) := by
  subst h1
  unfold psw
  dsimp only
  rw [if_pos ⟨(show w.1 < pNA from ha), by decide, by decide⟩]
  rfl
theorem psw_nd (h1 : w.1 = a) (ha : a < 182) : psw M (.newarray .double) (iv 1 :: S) w = some (2, .ref a :: S, pnw w 1 (.inl (5, 1, .inr (.inr (.inr (.inl (fun _ => FP.dconst0))))))) := by
  subst h1
  unfold psw
  dsimp only
  rw [if_pos ⟨(show w.1 < pNA from ha), by decide, by decide⟩]
  rfl
theorem yK_v {j np : Nat} {L : PL} {Q : PO → PW → Prop} (h : yX j M np L rest w Q) : yK j M pc np L rest Q (.inl none) w := h
end ALL
theorem law_all {n : Nat} {f : Nat → Int32} (hn : n ≤ 2560) : yX 513 355 0 [some (.ref pSC), none, none, none, none, none, none, none, none, none] [] (W00 n f) (fun o w2 => QL o w2 ∧ w2.2.1 ≤ 30033) := by
  obtain ⟨v, h8, k8⟩ := w8 (n := n) (f := f)
  refine (yX_w b355 d355_0 (psw_new (idx := 8) (ci := 7) (a := 0) (k := 10) rfl rfl (by decide) rfl) rfl _).mpr ?_
  refine y_f b355 d355_3 rfl rfl rfl <| y_cc b355 d355_4 rfl (pcl_i2 (M' := 8) rfl (by decide +kernel) (ob_nw rfl) rfl rfl) rfl (k8 _ rfl _ ?_)
  generalize hU : TW P1 (G1 n f) 0 v = U
  have u1 : U.1 = 169 := by rw [← hU]; exact h8.1
  have u2 : U.2.1 = v.2.1 := by rw [← hU]; rfl
  have uc : ∀ c, c < 182 → U.2.2 c = v.2.2 c := fun c hc => by
    rw [← hU]
    exact tw_c (bF (fun z => by have : 182 ≤ c := of_decide_eq_true z; omega))
  have us : U.2.2 pSC = .inl (7, n, .inl f) := by
    rw [← hU]
    rfl
  obtain ⟨u, h2, k2⟩ := w216 u1 (fun a ha => (uc (169 + a) (by omega)).trans (h8.2.2.2.1 a ha))
  refine yK_v (np := 7) ?_
  refine y_f b355 d355_7 rfl rfl rfl <| (yX_w b355 d355_8 (psw_new (idx := 165) (ci := 8) (k := 31) rfl u1 (by decide) rfl) rfl _).mpr ?_
  refine y_f b355 d355_11 rfl rfl rfl <| y_cc b355 d355_12 rfl (pcl_i2 (M' := 216) rfl (by decide +kernel) (ob_nw u1) rfl rfl) rfl (k2 _ (fun w2 c1 c2 c3 c4 c5 => ?_))
  obtain ⟨g, c5, c6⟩ := c5
  refine yK_v (np := 15) ?_
  refine y_f b355 d355_15 rfl rfl rfl <| y_f b355 d355_16 rfl rfl rfl <| (yX_s b355 d355_17 rfl (psw_nl c1 (by decide)) rfl _).mpr ?_
  generalize hA : pnw w2 1 (.inl (1, 1, .inr (.inl (fun _ => 0)))) = A
  have a1 : A.1 = 181 := by rw [← hA]; show w2.1 + 1 = 181; rw [c1]
  have a2 : A.2.1 = w2.2.1 + 1 := by rw [← hA]; rfl
  have a3 : A.2.2 180 = .inl (1, 1, .inr (.inl (fun _ => 0))) := by rw [← hA]; exact nw_at c1
  have a4 : ∀ c, c ≠ 180 → A.2.2 c = w2.2.2 c := fun c hc => by rw [← hA]; exact nw_ne c1 hc
  refine y_f b355 d355_19 rfl rfl rfl <| y_f b355 d355_20 rfl rfl rfl <| (yX_s b355 d355_21 rfl (psw_nd a1 (by decide)) rfl _).mpr ?_
  generalize hZ : pnw A 1 (.inl (5, 1, .inr (.inr (.inr (.inl (fun _ => FP.dconst0)))))) = Z
  have z1 : Z.1 = 182 := by rw [← hZ]; show A.1 + 1 = 182; rw [a1]
  have z2 : Z.2.1 = A.2.1 + 1 := by rw [← hZ]; rfl
  have z3 : Z.2.2 181 = .inl (5, 1, .inr (.inr (.inr (.inl (fun _ => FP.dconst0))))) := by rw [← hZ]; exact nw_at a1
  have z4 : ∀ c, c ≠ 181 → Z.2.2 c = A.2.2 c := fun c hc => by rw [← hZ]; exact nw_ne a1 hc
  refine y_f b355 d355_23 rfl rfl rfl <| y_f b355 d355_25 rfl rfl rfl <| y_f b355 d355_26 rfl rfl rfl ?_
  have zz : ∀ c, c ≠ 180 → c ≠ 181 → Z.2.2 c = w2.2.2 c := fun c h1 h2 => (z4 c h2).trans (a4 c h1)
  have hI : IV Z n f := iv0 h8 h2 z1 (fun c hc => by rw [zz c (by omega) (by omega), c3 c (Or.inl hc), uc c (by omega)]) (fun c h1 h3 h4 => by rw [zz c (by omega) (by omega), c4 c h1 (by omega) h4]) (by rw [zz 170 (by decide) (by decide)]; exact c5) c6 (by rw [z4 180 (by decide)]; exact a3) z3 (by rw [zz pSC (by decide) (by decide), c3 pSC (by decide)]; exact us)
  obtain ⟨n9, r9, hr, hq, hs⟩ := yX_sl z1 (law_loop (Nat.ble_eq_true_of_le (show n + 1 ≤ 2147483648 by omega)) 513 Z 0 none none none none rfl hI (by decide) (by omega) (by omega))
  have s1 := h8.2.1
  have s2 := h2.1.2
  exact ⟨n9, r9, hr, hq, by omega⟩
