/-! THE LAW: its cases that are not like the others -/
section LOQ
variable {w w2 : PW} {m : Row} {H : Nat → Row} {n : Nat} {l L : List Nat} {S : Nat → Row} {K : Nat → Int} {a b : Int} {r : PO} {j : Nat} {Q : PO → PW → Prop} {sn : Nat} {sf : Nat → Int32} {x1 x5 : Int} {o6 o7 o8 o9 : Option Value}
theorem fM.trc {w3 : PW} (h1 : fC w w2) (h2 : fM w2 w3) (h : Sc w sn sf) : Sc w3 sn sf := (h.kc h1).km h2
theorem o355_292 (hs : Sh w) (hSc : Sc w sn sf) (hC : CP w m H n l L S K a b) (hM : MP w m H n l L S K a b) (hF : FP0 m H n L S K) (hsn : Nat.blt sn 2147483648 = true) (hx5 : bd x5) (ho9 : pc2 o9 = false) (hr : 0 ≤ x5 ∧ x5 + 5 ≤ (sn : Int)) (hN : NX j Q sn sf x5) : yX j 355 292 [some (.ref pSC), some (.ref 0), some (.ref 169), some (.ref 180), some (.ref 181), some (iv x5), o6, o7, o8, o9] [] w Q := by
  refine v355_292 (sf := sf) hs hsn hx5 ho9 ⟨hSc, rg1 hr, hSc, rg2 hr, c10 hs hC.2.2.1 (fun q => ?_) (fun q w1 s1 T1 k1 => ?_)⟩
  · exact kI_iv ⟨by decide, by decide⟩ ⟨hs, hSc, rg1 hr, hSc, rg2 hr, c218 hs hM.2.2.1 (fun _ w2 F2 t2 => kI_iv ⟨by decide, by decide⟩ ⟨F2.1, fun _ => nxq hN ho9 F2.1 (hSc.km F2.km) (hC.km F2.km) (hM.mq F2) hF, fun q => absurd rfl q⟩) (fun q2 => absurd q2 q)⟩
  · obtain ⟨C1, f1⟩ := hC.ap T1 k1
    have hb : bd (((l ++ bDn ((lShl (i2L ((sf (x5 + 1).toNat).toInt)) 32) ||| ((i2L ((sf (x5 + 2).toNat).toInt)) &&& ((4294967295 : Int64)))) 8).length : Nat) : Int) := ⟨by omega, by omega⟩
    exact kI_iv hb ⟨s1, hSc.kc f1, rg1 hr, hSc.kc f1, rg2 hr, c218 s1 (hM.kc f1).2.2.1 (fun q2 => absurd q q2) (fun _ w2 F2 t2 T2 => kI_iv hb ⟨F2.1, fun _ => nxq hN ho9 F2.1 (fM.trc f1 F2.km hSc) (C1.km F2.km) ((hM.kc f1).ap F2 T2) hF, fun q => absurd rfl q⟩)⟩
theorem o355_349 (hs : Sh w) (hSc : Sc w sn sf) (hC : CP w m H n l L S K a b) (hM : MP w m H n l L S K a b) (hF : FP0 m H n L S K) (hsn : Nat.blt sn 2147483648 = true) (hx5 : bd x5) (ho9 : pc2 o9 = false) (hr : 0 ≤ x5 ∧ x5 + 5 ≤ (sn : Int)) (hN : NX j Q sn sf x5) : yX j 355 349 [some (.ref pSC), some (.ref 0), some (.ref 169), some (.ref 180), some (.ref 181), some (iv x5), o6, o7, o8, o9] [] w Q := by
  have hl : l.length ≤ 700 := hC.2.2.1.2.1
  refine v355_349 (sf := sf) hs hsn hx5 ho9 (c39 hs hC.2.2.1 hC.2.1 (fun kk aa ss e w1 s1 F1 T1 g8 g9 => ?_) (fun m2 e w1 s1 F1 T1 g8 g9 B1 H1 => ?_))
  · obtain ⟨C1, f1⟩ := hC.le F1 T1 g8 g9
    have hM1 := hM.kc f1
    have ha := sLoad_e e
    have hb : bd (-100 - (aa : Nat)) := ⟨by omega, by omega⟩
    refine kI_iv hb ⟨s1, c242 s1 hM1.2.2.1 hM1.1 hM1.2.1 (fun kk2 aa2 ss2 e2 w2 F2 t2 g12 g15 M2 H2 T2 => ?_) (fun m2 e2 => ?_)⟩
    · have e3 := Sum.inl.inj (e.symm.trans e2)
      obtain ⟨rfl, e4⟩ := Prod.mk.inj e3
      obtain ⟨rfl, rfl⟩ := Prod.mk.inj e4
      exact kI_iv hb ⟨F2.1, fun _ => nxq hN ho9 F2.1 (fM.trc f1 F2.km hSc) (C1.km F2.km) (hM1.ld F2 M2 H2 T2 g12 g15) hF, fun q => absurd rfl q⟩
    · rw [e] at e2
      cases e2
  · obtain ⟨C1, f1⟩ := hC.lv F1 T1 g8 g9 B1 (H1 H)
    have hM1 := hM.kc f1
    have h5 := B1.ok.2.2.2.2.2.1
    have hb : bd (m2 5) := ⟨by omega, by omega⟩
    refine kI_iv hb ⟨s1, c242 s1 hM1.2.2.1 hM1.1 hM1.2.1 (fun kk2 aa2 ss2 e2 => ?_) (fun m3 e3 w2 F2 t2 g12 g15 M2 H2 T2 => ?_)⟩
    · rw [e] at e2
      cases e2
    · obtain rfl : m2 = m3 := Sum.inr.inj (e.symm.trans e3)
      exact kI_iv hb ⟨F2.1, fun _ => nxq hN ho9 F2.1 (fM.trc f1 F2.km hSc) (C1.km F2.km) (hM1.ld F2 M2 (H2 H) T2 g12 g15) (hF.ld (sLoad_f e)), fun q => absurd rfl q⟩
theorem o355_362 (hs : Sh w) (hSc : Sc w sn sf) (hC : CP w m H n l L S K a b) (hM : MP w m H n l L S K a b) (hF : FP0 m H n L S K) (hsn : Nat.blt sn 2147483648 = true) (hx5 : bd x5) (ho9 : pc2 o9 = false) (hr : 0 ≤ x5 ∧ x5 + 5 ≤ (sn : Int)) (hN : NX j Q sn sf x5) : yX j 355 362 [some (.ref pSC), some (.ref 0), some (.ref 169), some (.ref 180), some (.ref 181), some (iv x5), o6, o7, o8, o9] [] w Q := by
  refine v355_362 (sf := sf) hs hsn hx5 ho9 (e40 hs (kI_iv (bd_gI _ _ _) ⟨hs, e243 hs (fun w1 e1 => ?_)⟩))
  obtain ⟨F1, g1, -⟩ := MqF.set hs e1 (slt_o tbC_169 rfl) bd0 (by decide)
  have e2 : gI w 0 8 = gI w1 169 12 := by
    rw [hC.2.2.2.2.2.1, (hM.mq F1).2.2.2.2.2.1]
  exact kI_iv (bd_gI _ _ _) ⟨F1.1, fun _ => nxq hN ho9 F1.1 (hSc.km F1.km) (hC.km F1.km) (hM.mq F1) hF, fun q => absurd e2 q⟩
theorem o355_375 (hs : Sh w) (hSc : Sc w sn sf) (hC : CP w m H n l L S K a b) (hM : MP w m H n l L S K a b) (hF : FP0 m H n L S K) (hsn : Nat.blt sn 2147483648 = true) (hx5 : bd x5) (ho9 : pc2 o9 = false) (hr : 0 ≤ x5 ∧ x5 + 5 ≤ (sn : Int)) (hN : NX j Q sn sf x5) : yX j 355 375 [some (.ref pSC), some (.ref 0), some (.ref 169), some (.ref 180), some (.ref 181), some (iv x5), o6, o7, o8, o9] [] w Q := by
  refine v355_375 (sf := sf) hs hsn hx5 ho9 (e41 hs (kI_iv (bd_gI _ _ _) ⟨hs, e244 hs (fun w1 e1 => ?_)⟩))
  obtain ⟨F1, g1, -⟩ := MqF.set hs e1 (slt_o tbC_169 rfl) bd0 (by decide)
  have e2 : gI w 0 9 = gI w1 169 15 := by
    rw [hC.2.2.2.2.2.2, (hM.mq F1).2.2.2.2.2.2]
  exact kI_iv (bd_gI _ _ _) ⟨F1.1, fun _ => nxq hN ho9 F1.1 (hSc.km F1.km) (hC.km F1.km) (hM.mq F1) hF, fun q => absurd e2 q⟩
theorem o355_2138 (hs : Sh w) (hSc : Sc w sn sf) (hC : CP w m H n l L S K a b) (hM : MP w m H n l L S K a b) (hF : FP0 m H n L S K) (hsn : Nat.blt sn 2147483648 = true) (hx5 : bd x5) (ho9 : pc2 o9 = false) (hr : 0 ≤ x5 ∧ x5 + 5 ≤ (sn : Int)) (hN : NX j Q sn sf x5) : yX j 355 2138 [some (.ref pSC), some (.ref 0), some (.ref 169), some (.ref 180), some (.ref 181), some (iv x5), o6, o7, o8, o9] [] w Q := by
  exact v355_2138 (sf := sf) hs hsn hx5 ho9 (c49 hs hC.1 hF.1 (fun w1 F1 => ⟨F1.1, c323 F1.1 (hM.kc F1.kc).1 hF.1 (fun w2 F2 t2 => ⟨F2.1, fun _ => nxq hN ho9 F2.1 (fM.trc F1.kc F2.km hSc) ((hC.cf F1).km F2.km) ((hM.kc F1.kc).mq F2) hF, fun q => absurd rfl q⟩)⟩))
theorem o355_2164 (hs : Sh w) (hSc : Sc w sn sf) (hC : CP w m H n l L S K a b) (hM : MP w m H n l L S K a b) (hF : FP0 m H n L S K) (hsn : Nat.blt sn 2147483648 = true) (hx5 : bd x5) (ho9 : pc2 o9 = false) (hr : 0 ≤ x5 ∧ x5 + 5 ≤ (sn : Int)) (hN : NX j Q sn sf x5) : yX j 355 2164 [some (.ref pSC), some (.ref 0), some (.ref 169), some (.ref 180), some (.ref 181), some (iv x5), o6, o7, o8, o9] [] w Q := by
  exact v355_2164 (sf := sf) hs hsn hx5 ho9 (c51 hs hC.1 hF.1 (fun w1 F1 => ⟨F1.1, c325 F1.1 (hM.kc F1.kc).1 hF.1 (fun w2 F2 t2 => ⟨F2.1, fun _ => nxq hN ho9 F2.1 (fM.trc F1.kc F2.km hSc) ((hC.cf F1).km F2.km) ((hM.kc F1.kc).mq F2) hF, fun q => absurd rfl q⟩)⟩))
theorem o355_2151 (hs : Sh w) (hSc : Sc w sn sf) (hC : CP w m H n l L S K a b) (hM : MP w m H n l L S K a b) (hF : FP0 m H n L S K) (hsn : Nat.blt sn 2147483648 = true) (hx5 : bd x5) (ho9 : pc2 o9 = false) (hr : 0 ≤ x5 ∧ x5 + 5 ≤ (sn : Int)) (hN : NX j Q sn sf x5) : yX j 355 2151 [some (.ref pSC), some (.ref 0), some (.ref 169), some (.ref 180), some (.ref 181), some (iv x5), o6, o7, o8, o9] [] w Q := by
  exact v355_2151 (sf := sf) hs hsn hx5 ho9 (c50 hs hC.1 ⟨hs, c324 hs hM.1 (fun w2 F2 t2 => ⟨F2.1, fun _ => nxq hN ho9 F2.1 (hSc.km F2.km) (hC.km F2.km) (hM.mq F2) hF, fun q => absurd rfl q⟩)⟩)
theorem o355_3416 (hs : Sh w) (hSc : Sc w sn sf) (hC : CP w m H n l L S K a b) (hM : MP w m H n l L S K a b) (hF : FP0 m H n L S K) (hsn : Nat.blt sn 2147483648 = true) (hx5 : bd x5) (ho9 : pc2 o9 = false) (hr : 0 ≤ x5 ∧ x5 + 5 ≤ (sn : Int)) (hN : NX j Q sn sf x5) : yX j 355 3416 [some (.ref pSC), some (.ref 0), some (.ref 169), some (.ref 180), some (.ref 181), some (iv x5), o6, o7, o8, o9] [] w Q := by
  exact v355_3416 (sf := sf) hs hsn hx5 ho9 ⟨hSc, rg1 hr, c54 hs (hC.2.2.2.1.wr hF.2.2.1) (bd_toInt _) ⟨hs, hSc, rg1 hr, c351 hs hM.2.2.2.1 hF.2.2.1 (bd_toInt _) (fun w2 F2 t2 => ⟨F2.1, fun _ => nxq hN ho9 F2.1 (hSc.km F2.km) (hC.km F2.km) (hM.mq F2) hF, fun q => absurd rfl q⟩)⟩⟩
theorem HR.ok (h : HR w H n) : ∀ i, i < n → RowOK (H i) := fun i hi => by
  obtain ⟨-, -, o, -, -, h5⟩ := h
  exact (h5 i hi).ok
theorem o355_3441 (hs : Sh w) (hSc : Sc w sn sf) (hC : CP w m H n l L S K a b) (hM : MP w m H n l L S K a b) (hF : FP0 m H n L S K) (hsn : Nat.blt sn 2147483648 = true) (hx5 : bd x5) (ho9 : pc2 o9 = false) (hr : 0 ≤ x5 ∧ x5 + 5 ≤ (sn : Int)) (hN : NX j Q sn sf x5) : yX j 355 3441 [some (.ref pSC), some (.ref 0), some (.ref 169), some (.ref 180), some (.ref 181), some (iv x5), o6, o7, o8, o9] [] w Q := by
  have hok := hC.2.1.ok
  refine v355_3441 (sf := sf) hs hsn hx5 ho9 (c56 hs hC.1 hC.2.1 (fun q => ?_) (fun y e w1 s1 F1 B1 H1 => ?_))
  · exact ⟨hs, c352 hs hM.1 hM.2.1 hok (fun _ w2 F2 t2 => ⟨F2.1, fun _ => nxq hN ho9 F2.1 (hSc.km F2.km) (hC.km F2.km) (hM.mq F2) hF, fun q => absurd rfl q⟩) (fun y e => by omega)⟩
  · subst e
    obtain ⟨C1, f1⟩ := hC.af F1 B1 H1
    have hM1 := hM.kc f1
    refine ⟨s1, c352 s1 hM1.1 hM1.2.1 hok (fun z => by omega) (fun y2 e2 w2 F2 t2 M2 H2 => ?_)⟩
    obtain rfl : y = y2 := by omega
    exact ⟨F2.1, fun _ => nxq hN ho9 F2.1 (fM.trc f1 F2.km hSc) (C1.km F2.km) (hM1.ma F2 M2 H2) hF.un, fun q => absurd rfl q⟩
theorem o355_2517 (hs : Sh w) (hSc : Sc w sn sf) (hC : CP w m H n l L S K a b) (hM : MP w m H n l L S K a b) (hF : FP0 m H n L S K) (hsn : Nat.blt sn 2147483648 = true) (hx5 : bd x5) (ho9 : pc2 o9 = false) (hr : 0 ≤ x5 ∧ x5 + 5 ≤ (sn : Int)) (hN : NX j Q sn sf x5) : yX j 355 2517 [some (.ref pSC), some (.ref 0), some (.ref 169), some (.ref 180), some (.ref 181), some (iv x5), o6, o7, o8, o9] [] w Q := by
  exact v355_2517 (sf := sf) hs hsn hx5 ho9 ⟨hSc, rg1 hr, hSc, rg2 hr, hSc, rg3 hr, hSc, rg4 hr, fun q0 => pC_mono (x177 hs hC (bd_toInt _) (bd_toInt _) (bd_toInt _) bd0) (fun o w1 ⟨ho, s1, f1, P1, g1⟩ => kXW ho i176 ⟨s1, hSc.kc f1, rg1 hr, hSc.kc f1, rg2 hr, hSc.kc f1, rg3 hr, hSc.kc f1, rg4 hr, fun _ => c334 s1 (hM.kc f1).1 (hM.kc f1).2.1 (bd_toInt _) (bd_toInt _) (bd_toInt _) bd0 (fun w3 F3 t3 M3 H3 => finZ i176 F3.1 t3 (fun z e => g180 F3.km (g1 z e)) (fun u => nxq hN ho9 F3.1 ((hSc.kc f1).km F3.km) (P1.km F3.km) ((hM.kc f1).ma F3 M3 H3) (hF.ac hC.2.1.2.1 (af176 hF.1)))), fun q => absurd q0 q⟩), fun q0 => pC_mono (x177 hs hC (bd_toInt _) (bd_toInt _) (bd_toInt _) ⟨by decide, by decide⟩) (fun o w1 ⟨ho, s1, f1, P1, g1⟩ => kXW ho i176 ⟨s1, hSc.kc f1, rg1 hr, hSc.kc f1, rg2 hr, hSc.kc f1, rg3 hr, hSc.kc f1, rg4 hr, fun q => absurd q q0, fun _ => c334 s1 (hM.kc f1).1 (hM.kc f1).2.1 (bd_toInt _) (bd_toInt _) (bd_toInt _) ⟨by decide, by decide⟩ (fun w3 F3 t3 M3 H3 => finZ i176 F3.1 t3 (fun z e => g180 F3.km (g1 z e)) (fun u => nxq hN ho9 F3.1 ((hSc.kc f1).km F3.km) (P1.km F3.km) ((hM.kc f1).ma F3 M3 H3) (hF.ac hC.2.1.2.1 (af176 hF.1))))⟩)⟩
/-! wear and purity -/
def WD (w : PW) (m : Row) (x : Int) (C : PW → Prop) : PO → PW → Prop := fun o w3 => o = .inl (some (iv (if 0 ≤ x ∧ x < m 4 then 0 else 1))) ∧ Sh w3 ∧ fC w w3 ∧ C w3 ∧ (0 ≤ x ∧ x < m 4 → gD w3 181 0 = vWear m x)
theorem x204 (hs : Sh w) (hC : CP w m H n l L S K a b) (hx1 : bd x1) : pC 204 [.ref 0, iv x1, .ref 181] w (WD w m x1 (fun w3 => CP w3 m H n l L S K a b)) := by
  refine e204 hs hx1 (c203 hs hC.1 hx1 (fun q => ⟨hs, fun w3 e3 => ?_⟩) (fun q => ⟨rfl, hs, ?_⟩))
  · subst e3
    have hk : ∀ c, c ≠ 181 → (sD w 181 0 (vWear m x1)).2.2 c = w.2.2 c := fun c hc => sD_cell hc
    exact ⟨by rw [if_pos q], Sh_sD hs, fun c _ _ h3 => hk c h3, hC.cells (fun c hc => hk c (by omega)), fun _ => gD_sD hs (by decide) tbC_181⟩
  · exact ⟨by rw [if_neg q], hs, fC.rf, hC, fun z => absurd z q⟩
theorem gD_cell {k : Nat} (h : w2.2.2 k = w.2.2 k) (i : Nat) : gD w2 k i = gD w k i := by
  unfold gD
  rw [h]
theorem o355_3160 (hs : Sh w) (hSc : Sc w sn sf) (hC : CP w m H n l L S K a b) (hM : MP w m H n l L S K a b) (hF : FP0 m H n L S K) (hsn : Nat.blt sn 2147483648 = true) (hx5 : bd x5) (ho9 : pc2 o9 = false) (hr : 0 ≤ x5 ∧ x5 + 5 ≤ (sn : Int)) (hN : NX j Q sn sf x5) : yX j 355 3160 [some (.ref pSC), some (.ref 0), some (.ref 169), some (.ref 180), some (.ref 181), some (iv x5), o6, o7, o8, o9] [] w Q := by
  refine v355_3160 (sf := sf) hs hsn hx5 ho9 ⟨hSc, rg1 hr, pC_mono (x204 hs hC (bd_toInt _)) (fun o w1 ⟨ho, s1, f1, P1, g1⟩ => ?_)⟩
  subst ho
  have hM1 := hM.kc f1
  refine kXI (by split <;> exact ⟨by decide, by decide⟩) ⟨s1, hSc.kc f1, rg1 hr, c345 s1 hM1.1 (bd_toInt _) (fun q w3 F3 t3 => ?_) (fun q w3 F3 t3 => ?_)⟩
  · have hn := fun (o6 o7 o8 : Option Value) => nxq (o6 := o6) (o7 := o7) (o8 := o8) hN ho9 F3.1 (fM.trc f1 F3.km hSc) (P1.km F3.km) (hM1.mq F3) hF
    rw [if_pos q]
    have hg : gD w3 181 0 = vWear m (sf (x5 + 1).toNat).toInt := (gD_cell (F3.km 181 (by decide)) 0).trans (g1 q)
    refine ⟨F3.1, fun _ => ⟨fun _ => hn _ _ _, fun _ => ⟨fun _ => hn _ _ _, fun q2 => ?_⟩⟩, fun q2 => absurd t3 q2⟩
    rw [hg] at q2 ⊢
    exact ⟨fun q3 => absurd q3 q2, fun _ => ⟨fun _ => hn _ _ _, fun q3 => absurd q3 q2⟩⟩
  · have hn := fun (o6 o7 o8 : Option Value) => nxq (o6 := o6) (o7 := o7) (o8 := o8) hN ho9 F3.1 (fM.trc f1 F3.km hSc) (P1.km F3.km) (hM1.mq F3) hF
    rw [if_neg q]
    exact ⟨F3.1, fun _ => ⟨fun _ => hn _ _ _, fun z => absurd z (by decide)⟩, fun q2 => absurd t3 q2⟩
theorem o355_3237 (hs : Sh w) (hSc : Sc w sn sf) (hC : CP w m H n l L S K a b) (hM : MP w m H n l L S K a b) (hF : FP0 m H n L S K) (hsn : Nat.blt sn 2147483648 = true) (hx5 : bd x5) (ho9 : pc2 o9 = false) (hr : 0 ≤ x5 ∧ x5 + 5 ≤ (sn : Int)) (hN : NX j Q sn sf x5) : yX j 355 3237 [some (.ref pSC), some (.ref 0), some (.ref 169), some (.ref 180), some (.ref 181), some (iv x5), o6, o7, o8, o9] [] w Q := by
  have hf := f2d_ok hC.1.ok hF.1
  refine v355_3237 (sf := sf) hs hsn hx5 ho9 (c53 hs hC.1 hF.1 ⟨hs, hf, c346 hs hM.1 hF.1 (fun w3 F3 t3 => ?_)⟩)
  have hn := fun (o6 o7 o8 : Option Value) => nxq (o6 := o6) (o7 := o7) (o8 := o8) (o9 := none) hN rfl F3.1 (hSc.km F3.km) (hC.km F3.km) (hM.mq F3) hF
  exact ⟨F3.1, hf, fun _ => hn _ _ _, fun q2 => ⟨fun q3 => absurd q3 q2, fun _ => ⟨fun _ => hn _ _ _, fun q3 => absurd q3 q2⟩⟩⟩
/-! rows kept aside -/
def q211 (m : Row) (x : Int) : PO := if 0 ≤ x ∧ x ≤ 1 then rI (sAll m) else .inr 1
def S211 (m : Row) (S : Nat → Row) (x : Int) : Nat → Row := if 0 ≤ x ∧ x ≤ 1 then (fun i => if i = x.toNat then m else S i) else S
def K211 (K : Nat → Int) (x : Int) : Nat → Int := if 0 ≤ x ∧ x ≤ 1 then (fun i => if i = x.toNat then 1 else K i) else K
theorem i211 : is1 (q211 m x1) := is1_if is1_I
theorem FP0.s211 (hF : FP0 m H n L S K) : FP0 m H n L (S211 m S x1) (K211 K x1) := by
  unfold S211 K211
  by_cases q : 0 ≤ x1 ∧ x1 ≤ 1
  · rw [if_pos q, if_pos q]
    exact hF.sn
  · rw [if_neg q, if_neg q]
    exact hF
theorem x212 (hs : Sh w) (hC : CP w m H n l L S K a b) (hx1 : bd x1) : pC 212 [.ref 0, iv x1, .ref 180] w (WQ w (q211 m x1) (fun w3 => CP w3 m H n l L (S211 m S x1) (K211 K x1) a b)) := by
  refine e212 hs hx1 (wT1 (c211 hs hC.1 hx1 (fun q => ?_) (fun q w2 s2 B2 k2 c2 => ?_)) i211)
  · unfold q211 S211 K211
    rw [if_neg q, if_neg q, if_neg q]
    exact ckQ hs hC
  · obtain ⟨C2, f2⟩ := hC.sn (x := x1.toNat) (by omega) B2 k2 c2
    unfold q211 S211 K211
    rw [if_pos q, if_pos q, if_pos q]
    exact ⟨rfl, s2, f2, fun w3 hk => C2.cells (fun c hc => hk c (by omega))⟩
theorem c353s (hs : Sh w) (hM : MP w m H n l L S K a b) (hx1 : bd x1) (h : ∀ w2, Sh w2 → fM w w2 → gI w2 169 0 = moE (q211 m x1) → MP w2 m H n l L (S211 m S x1) (K211 K x1) a b → Q (moV (q211 m x1)) w2) : pC 353 [.ref 169, iv x1] w Q := by
  refine c353 hs hM.1 hx1 (fun q w2 F2 t2 => ?_) (fun q w2 F2 t2 g2 k2 => ?_)
  · have h := h w2 F2.1 F2.km
    unfold q211 S211 K211 at h
    rw [if_neg q, if_neg q, if_neg q] at h
    exact h t2 (hM.mq F2)
  · have h := h w2 F2.1 F2.km
    unfold q211 S211 K211 at h
    rw [if_pos q, if_pos q, if_pos q] at h
    exact h t2 (hM.sn (x := x1.toNat) (by omega) F2 g2 k2)
theorem o355_3454 (hs : Sh w) (hSc : Sc w sn sf) (hC : CP w m H n l L S K a b) (hM : MP w m H n l L S K a b) (hF : FP0 m H n L S K) (hsn : Nat.blt sn 2147483648 = true) (hx5 : bd x5) (ho9 : pc2 o9 = false) (hr : 0 ≤ x5 ∧ x5 + 5 ≤ (sn : Int)) (hN : NX j Q sn sf x5) : yX j 355 3454 [some (.ref pSC), some (.ref 0), some (.ref 169), some (.ref 180), some (.ref 181), some (iv x5), o6, o7, o8, o9] [] w Q := by
  exact v355_3454 (sf := sf) hs hsn hx5 ho9 ⟨hSc, rg1 hr, pC_mono (x212 hs hC (bd_toInt _)) (fun o w1 ⟨ho, s1, f1, P1, g1⟩ => kXW ho i211.up ⟨s1, hSc.kc f1, rg1 hr, c353s s1 (hM.kc f1) (bd_toInt _) (fun w3 s3 f3 t3 M3 => finQ i211.up s3 t3 (fun z e => g180 f3 (g1 z e)) (fun u => nxq hN ho9 s3 ((hSc.kc f1).km f3) (P1.km f3) M3 hF.s211))⟩)⟩
def q213 (S : Nat → Row) (K : Nat → Int) (x : Int) : PO := if 0 ≤ x ∧ x ≤ 1 then (if K x.toNat = 0 then rI (-1) else rI (sAll (S x.toNat))) else .inr 1
def M213 (m : Row) (S : Nat → Row) (K : Nat → Int) (x : Int) : Row := if (0 ≤ x ∧ x ≤ 1) ∧ K x.toNat ≠ 0 then S x.toNat else m
def N213 (n : Nat) (K : Nat → Int) (x : Int) : Nat := if (0 ≤ x ∧ x ≤ 1) ∧ K x.toNat ≠ 0 then 0 else n
theorem i213 : is1 (q213 S K x1) := by
  unfold q213
  split
  · split
    · exact is1_I
    · exact is1_I
  · exact Or.inr rfl
theorem FP0.s213 (hF : FP0 m H n L S K) : FP0 (M213 m S K x1) H (N213 n K x1) L S K := by
  unfold M213 N213
  by_cases q : (0 ≤ x1 ∧ x1 ≤ 1) ∧ K x1.toNat ≠ 0
  · rw [if_pos q, if_pos q]
    exact hF.ld (hF.2.2.2 _ (by omega) q.2)
  · rw [if_neg q, if_neg q]
    exact hF
theorem x214 (hs : Sh w) (hC : CP w m H n l L S K a b) (hx1 : bd x1) : pC 214 [.ref 0, iv x1, .ref 180] w (WQ w (q213 S K x1) (fun w3 => CP w3 (M213 m S K x1) H (N213 n K x1) l L S K a b)) := by
  have h5 : 0 ≤ x1 ∧ x1 ≤ 1 → _ := fun q => hC.2.2.2.2.1 x1.toNat (by omega)
  refine e214 hs hx1 (wT1 (c213 (m := m) hs hC.2.1 hx1 (fun q q2 => (h5 q).2 (by rw [← (h5 q).1]; exact q2)) (fun q => ?_) (fun q q2 => ?_) (fun q q2 w2 s2 F2 B2 H2 => ?_)) i213)
  · unfold q213 M213 N213
    rw [if_neg q, if_neg (fun z => q z.1), if_neg (fun z => q z.1)]
    exact ckQ hs hC
  · have q3 : K x1.toNat = 0 := by rw [← (h5 q).1]; exact q2
    unfold q213 M213 N213
    rw [if_pos q, if_pos q3, if_neg (fun z => z.2 q3), if_neg (fun z => z.2 q3)]
    exact ckQ hs hC
  · have q3 : K x1.toNat ≠ 0 := by rw [← (h5 q).1]; exact q2
    obtain ⟨C2, f2⟩ := hC.af F2 B2 (H2 H)
    unfold q213 M213 N213
    rw [if_pos q, if_neg q3, if_pos ⟨q, q3⟩, if_pos ⟨q, q3⟩]
    exact ⟨rfl, s2, f2, fun w3 hk => C2.cells (fun c hc => hk c (by omega))⟩
theorem c354s (hs : Sh w) (hM : MP w m H n l L S K a b) (hok : ∀ i, i < 2 → K i ≠ 0 → RowOK (S i)) (hx1 : bd x1) (h : ∀ w2, Sh w2 → fM w w2 → gI w2 169 0 = moE (q213 S K x1) → MP w2 (M213 m S K x1) H (N213 n K x1) l L S K a b → Q (moV (q213 S K x1)) w2) : pC 354 [.ref 169, iv x1] w Q := by
  have h5 : 0 ≤ x1 ∧ x1 ≤ 1 → _ := fun q => hM.2.2.2.2.1 x1.toNat (by omega)
  refine c354 (m2 := S x1.toNat) hs hM.1 hx1 (fun q q2 => ?_) (fun q w2 F2 t2 => ?_) (fun q q2 w2 F2 t2 => ?_) (fun q q2 w2 F2 t2 M2 H2 => ?_)
  · have q3 : K x1.toNat ≠ 0 := by rw [← (h5 q).1]; exact q2
    exact ⟨hok _ (by omega) q3, (h5 q).2 q3⟩
  · have h := h w2 F2.1 F2.km
    unfold q213 M213 N213 at h
    rw [if_neg q, if_neg (fun z => q z.1), if_neg (fun z => q z.1)] at h
    exact h t2 (hM.mq F2)
  · have q3 : K x1.toNat = 0 := by rw [← (h5 q).1]; exact q2
    have h := h w2 F2.1 F2.km
    unfold q213 M213 N213 at h
    rw [if_pos q, if_pos q3, if_neg (fun z => z.2 q3), if_neg (fun z => z.2 q3)] at h
    exact h t2 (hM.mq F2)
  · have q3 : K x1.toNat ≠ 0 := by rw [← (h5 q).1]; exact q2
    have h := h w2 F2.1 F2.km
    unfold q213 M213 N213 at h
    rw [if_pos q, if_neg q3, if_pos ⟨q, q3⟩, if_pos ⟨q, q3⟩] at h
    exact h t2 (hM.ma F2 M2 (H2 H))
theorem o355_3510 (hs : Sh w) (hSc : Sc w sn sf) (hC : CP w m H n l L S K a b) (hM : MP w m H n l L S K a b) (hF : FP0 m H n L S K) (hsn : Nat.blt sn 2147483648 = true) (hx5 : bd x5) (ho9 : pc2 o9 = false) (hr : 0 ≤ x5 ∧ x5 + 5 ≤ (sn : Int)) (hN : NX j Q sn sf x5) : yX j 355 3510 [some (.ref pSC), some (.ref 0), some (.ref 169), some (.ref 180), some (.ref 181), some (iv x5), o6, o7, o8, o9] [] w Q := by
  have hok : ∀ i, i < 2 → K i ≠ 0 → RowOK (S i) := fun i hi q => ((hC.2.2.2.2.1 i hi).2 q).ok
  exact v355_3510 (sf := sf) hs hsn hx5 ho9 ⟨hSc, rg1 hr, pC_mono (x214 hs hC (bd_toInt _)) (fun o w1 ⟨ho, s1, f1, P1, g1⟩ => kXW ho i213.up ⟨s1, hSc.kc f1, rg1 hr, c354s s1 (hM.kc f1) hok (bd_toInt _) (fun w3 s3 f3 t3 M3 => finQ i213.up s3 t3 (fun z e => g180 f3 (g1 z e)) (fun u => nxq hN ho9 s3 ((hSc.kc f1).km f3) (P1.km f3) M3 hF.s213))⟩)⟩
end LOQ
