/-! SOUNDNESS, 5: stores and new cells -/
theorem mI_c : ∀ c, c < 14 → ∀ r, vwCl[([0, 1, 2, 3, 4, 99, 5, 6, 7] : List Nat).getD c 99]? = some r → r.1 = cN c :=
  lt_s (lt_s (lt_s (lt_s (lt_s (lt_s (lt_s (lt_s (lt_s (lt_s (lt_s (lt_s (lt_s (lt_s (lt_0) (fun r h => by cases h; rfl)) (fun r h => by cases h; rfl)) (fun r h => by cases h; rfl)) (fun r h => by cases h; rfl)) (fun r h => by cases h; rfl)) (fun r h => by cases h)) (fun r h => by cases h; rfl)) (fun r h => by cases h; rfl)) (fun r h => by cases h; rfl)) (fun r h => by cases h)) (fun r h => by cases h)) (fun r h => by cases h)) (fun r h => by cases h)) (fun r h => by cases h)
theorem mI_own {M : Nat} (hM : mC M < 14) {r : vw_C} (h : vwCl[mI M]? = some r) : r.1 = cN (mC M) := mI_c _ hM r h
theorem pfit_ok {ad : Nat → Nat} {ty : FieldType} {v : Value} (h : pfit ty v = true) : fits ty (mV ad v) = true ∧ narrow ty (mV ad v) = mV ad v := by
  cases ty <;> cases v <;> first | (exact ⟨rfl, rfl⟩) | (exact Bool.noConfusion (show false = true from h))
theorem W_size {p : Program} {l : Launch} {e : Env} {R : Room} {s : State} {m : MethodId} {args : Array Value} {below : List Frame} {meth : Method} {c : Code} {H : Heap} {locs : List Loc} {cells slots : Nat} {Q : State → Prop} {g : JFrame}
    (k : H.size ≤ s.heap.size + cells → W p l e R s m args below meth c H locs cells slots Q g) : W p l e R s m args below meth c H locs cells slots Q g :=
  fun T hT X => k (by rw [← hT]; exact X.same.2.2.1) T hT X
section PST
variable {D : va_G} {cy : Nat → ClassId} {sa : Nat → Nat} {b Ls z n0 : Nat} {xs : Nat → Int32} {tx : List Nat} {w : PW} {H H1 : Heap} {ad : Nat → Nat}
theorem pri_set (h : pRi D ad cy Ls xs tx w H) {a : Nat} (ha : a < w.1) {e : va_E} (hP : va_P D vwCl ((mW ad cy w).set a (ad a, mE ad cy e)) H1) (ht : ∀ t x, e = .inl (t, x) → t < 7) : pRi D ad cy Ls xs tx (pup w a e) H1 := by
  have hsc : pSC ≠ a := by
    have := h.2.1
    intro q
    rw [← q] at ha
    exact absurd (Nat.lt_of_lt_of_le ha this) (by decide)
  have htx : pTX ≠ a := by
    have := h.2.1
    intro q
    rw [← q] at ha
    exact absurd (Nat.lt_of_lt_of_le ha this) (by decide)
  refine ⟨by rw [← mW_set ha]; exact hP, h.2.1, fun a' h1 h2 h3 => ?_, ⟨?_, ?_⟩, fun a' t x h1 => ?_⟩
  · have : a' ≠ a := fun q => absurd (Nat.lt_of_lt_of_le ha h1) (by omega)
    show va_up w.2.2 a e a' = _
    unfold va_up
    rw [if_neg this]
    exact h.2.2.1 a' h1 h2 h3
  · show va_up w.2.2 a e pSC = _
    unfold va_up
    rw [if_neg hsc]
    exact h.2.2.2.1.1
  · show va_up w.2.2 a e pTX = _
    unfold va_up
    rw [if_neg htx]
    exact h.2.2.2.1.2
  · have h1' : va_up w.2.2 a e a' = .inl (t, x) := h1
    unfold va_up at h1'
    by_cases q : a' = a
    · rw [if_pos q] at h1'
      exact Or.inl (ht t x h1')
    · rw [if_neg q] at h1'
      exact h.2.2.2.2 a' t x h1'
theorem pri_new (h : pRi D ad cy Ls xs tx w H) (hn : w.1 < pNA) {n : Nat} {e : va_E} (hP : va_P D vwCl (mW ad cy w ++ [(ad w.1, mE ad cy e)]) H1) (ht : ∀ t x, e = .inl (t, x) → t < 7) : pRi D ad cy Ls xs tx (pnw w n e) H1 := by
  have hsc : pSC ≠ w.1 := by
    intro q
    rw [← q] at hn
    exact absurd hn (by decide)
  have htx : pTX ≠ w.1 := by
    intro q
    rw [← q] at hn
    exact absurd hn (by decide)
  refine ⟨by rw [← mW_new]; exact hP, hn, fun a' h1 h2 h3 => ?_, ⟨?_, ?_⟩, fun a' t x h1 => ?_⟩
  · have h1' : w.1 + 1 ≤ a' := h1
    show va_up w.2.2 w.1 e a' = _
    unfold va_up
    rw [if_neg (by omega)]
    exact h.2.2.1 a' (by omega) h2 h3
  · show va_up w.2.2 w.1 e pSC = _
    unfold va_up
    rw [if_neg hsc]
    exact h.2.2.2.1.1
  · show va_up w.2.2 w.1 e pTX = _
    unfold va_up
    rw [if_neg htx]
    exact h.2.2.2.1.2
  · have h1' : va_up w.2.2 w.1 e a' = .inl (t, x) := h1
    unfold va_up at h1'
    by_cases q : a' = w.1
    · rw [if_pos q] at h1'
      exact Or.inl (ht t x h1')
    · rw [if_neg q] at h1'
      exact h.2.2.2.2 a' t x h1'
theorem pq_eq {q : Nat} {e : va_E} (hP : va_P D vwCl (mW (pad z sa b) cy w ++ [(q, e)]) H1) (hD : va_D (pA z n0) (mW (pad z sa b) cy w ++ [(q, e)])) (hn : w.1 < pNA) (hsz : H1.size ≤ z + w.1 + 1) : q = pad z sa b w.1 := by
  have hi : (mW (pad z sa b) cy w ++ [(q, e)])[w.1]? = some (q, e) := by
    rw [List.getElem?_append_right (by rw [mW_len]; exact Nat.le_refl _), mW_len, Nat.sub_self]
    rfl
  have h1 : z ≤ q := (hD.2 _ _ hi).1
  have h2 : q < H1.size := (hP _ _ hi).lt
  rw [pad_lt (Nat.lt_trans hn (by decide))]
  by_cases h3 : q < z + w.1
  · exfalso
    have hr : q - z < w.1 := by omega
    have h4 : (mW (pad z sa b) cy w ++ [(q, e)])[q - z]? = some (pad z sa b (q - z), mE (pad z sa b) cy (w.2.2 (q - z))) := by
      rw [List.getElem?_append_left (by rw [mW_len]; exact hr)]
      exact mW_at hr
    have h5 := hD.1 _ _ _ _ h4 hi (by
      show pad z sa b (q - z) = q
      rw [pad_lt (Nat.lt_trans hr (Nat.lt_trans hn (by decide)))]
      omega)
    omega
  · omega
theorem pty_eq {s : State} {cA : ClassId} {t : Nat} (ht : t < 7) (h : va_K D vwCl (ptys cy ++ [(cA, tyA.getD t .int)]) s) : cA = cy t := by
  have h1 := (h.2 7 (cA, tyA.getD t .int) rfl).2
  have h2 := (h.2 t (cy t, tyA.getD t .int) (by rw [List.getElem?_append_left (show t < 7 from ht)]; exact ptys_at cy ht)).2
  match t, ht, h1, h2 with
  | 0, _, h1, h2 => exact Option.some.inj (h1.symm.trans h2)
  | 1, _, h1, h2 => exact Option.some.inj (h1.symm.trans h2)
  | 2, _, h1, h2 => exact Option.some.inj (h1.symm.trans h2)
  | 3, _, h1, h2 => exact Option.some.inj (h1.symm.trans h2)
  | 4, _, h1, h2 => exact Option.some.inj (h1.symm.trans h2)
  | 5, _, h1, h2 => exact Option.some.inj (h1.symm.trans h2)
  | 6, _, h1, h2 =>
    obtain ⟨_, _, _, _, _, g1⟩ := h1
    obtain ⟨_, _, _, _, _, g2⟩ := h2
    exact Option.some.inj (g1.symm.trans g2)
theorem mQ_up (f : Nat → Option Nat) (i v : Nat) : (fun j => (va_up f i (some v) j).map ad) = va_up (fun j => (f j).map ad) i (some (ad v)) := by
  funext j
  unfold va_up
  by_cases h : j = i
  · rw [if_pos h, if_pos h]; rfl
  · rw [if_neg h, if_neg h]
end PST
theorem isOb_eq {w : PW} {v ci : Nat} (h : ¬ isOb w v ci = false) : ∃ fs, w.2.2 v = .inr (ci, fs) := by
  unfold isOb at h
  split at h
  · rename_i c fs he
    have h1 : Nat.beq c ci = true := by
      cases hq : Nat.beq c ci with
      | true => rfl
      | false => exact absurd hq h
    rw [Nat.eq_of_beq_eq_true h1] at he
    exact ⟨fs, he⟩
  · exact absurd rfl h
section PSW
variable {p : Program} {l : Launch} {e : Env} {R : Room} {s : State} {m : MethodId} {args : Array Value} {below : List Frame} {meth : Method} {c : Code} {H : Heap} {locs : List Loc} {cells slots : Nat} {Q : State → Prop}
variable {pc ln : Nat} {i : Instr} {ls : Array Slot} {S S' : List Value} {w w' : PW}
variable {D : va_G} {cy : Nat → ClassId} {sa sv : Nat → Nat} {b Ls z : Nat} {xs : Nat → Int32} {tx : List Nat} {s0 : State} {a0 : Array Value} {M : Nat}
theorem pcx_A (hC : pCx p l D cy sa sv b Ls z xs tx s0 a0 M R s m c) : ∀ q, s.heap.size ≤ q → pA z s0.heap.size q := fun q hq =>
  have h1 := Nat.le_trans hC.2.2.2.2.2.2.2.1.1 hq
  ⟨Nat.le_trans hC.2.2.2.2.2.1.1.2.2.2.2.1.2 h1, Or.inr h1⟩
theorem pcn1 {a x b : Nat} (h : a + ((x + 1) - x) ≤ b) : a + 1 ≤ b := by omega
theorem pcn2 {a x n b : Nat} (h : a + ((x + n) - x) ≤ b) : a + n ≤ b := by omega
theorem mE_q (ad : Nat → Nat) (cy : Nat → ClassId) (t n : Nat) (f : Nat → Option Nat) : mE ad cy (.inl (t, n, .inr (.inr (.inr (.inr f))))) = .inl (cy t, n, .inr (.inr (.inr (.inr (fun i => (f i).map ad))))) := rfl
theorem mE_o (ad : Nat → Nat) (cy : Nat → ClassId) (c : Nat) (fs : List Value) : mE ad cy (.inr (c, fs)) = .inr (c, fs.map (mV ad)) := rfl
set_option maxHeartbeats 4000000 in
theorem pnewa_snd (hC : pCx p l D cy sa sv b Ls z xs tx s0 a0 M R s m c) (hR : pRi D (pad z sa b) cy Ls xs tx w H) (hS : va_S (pA z s0.heap.size) s.heap H locs) {n : Int32} {S9 : List Value} (hn : w.1 < pNA) (h0 : ¬ n < 0) (h100 : n.toNatClampNeg ≤ 100000)
    (hz1 : s.heap.size + cells ≤ z + w.1) (t : Nat) (ty : FieldType) (at9 : ArrayType) (a9 : vp_A) (ht : t < 7) (hty : tyA.getD t .int = ty) (hto : newarray.typeOf at9 = ty) (hd : decode (mB M) pc = .ok (.newarray at9, 2)) (harr : Cond.arrayClass ty ∈ TG) (hcell : ∀ cA : ClassId, vp_cell cA a9 = arrV cA n.toNatClampNeg (fun _ => defaultValue ty))
    (hby : n.toNatClampNeg * componentBytes ty ≤ 536870912) (hme : ∀ ad : Nat → Nat, mE ad cy (.inl (t, a9)) = .inl (cy t, a9)) (hc1 : cells + ((w.1 + 1) - w.1) ≤ R.cells) (hc2 : slots + ((w.2.1 + n.toNatClampNeg) - w.2.1) ≤ R.slots)
    (k : ∀ (H1 : Heap) (locs1 : List Loc) (cells1 slots1 : Nat), cells1 = cells + ((w.1 + 1) - w.1) → slots1 = slots + ((w.2.1 + n.toNatClampNeg) - w.2.1) → pRi D (pad z sa b) cy Ls xs tx (pnw w n.toNatClampNeg (.inl (t, a9))) H1 → va_S (pA z s0.heap.size) s.heap H1 locs1 → W p l e R s m args below meth c H1 locs1 cells1 slots1 Q (F0 m (pc + 2) ls ((Value.ref w.1 :: S9).map (mV (pad z sa b))))) :
    W p l e R s m args below meth c H locs cells slots Q (F0 m pc ls ((Value.int n :: S9).map (mV (pad z sa b)))) := by
  have hx := hC.1
  have hb := hC.2.1
  have hK := pw_K hC
  have hP := hR.1
  have hD := pD (z := z) (n0 := s0.heap.size) (sa := sa) (b := b) (cy := cy) hR.2.1
  have hA : ∀ q, s.heap.size ≤ q → pA z s0.heap.size q := pcx_A hC
  subst hto
  refine va_newa (N' := n.toNatClampNeg) (a0 := a9) hx hb (pw_tg hC harr args) rfl hK hP hD hS hA hcell h0 rfl hby (pcn1 hc1) (pcn2 hc2) hd fun q cA H1 hK1 hP1 hD1 hS1 => W_size fun hsz => ?_
  have hcA : cA = cy t := pty_eq ht (by rw [hty]; exact hK1)
  subst hcA
  have hq := pq_eq hP1 hD1 hn (by omega)
  subst hq
  exact k H1 locs (cells + 1) (slots + n.toNatClampNeg) (by omega) (by omega) (pri_new hR hn (by rw [hme]; exact hP1) (fun t' x' q => by cases q; exact ht)) hS1
set_option maxHeartbeats 4000000 in
theorem psw_snd (hC : pCx p l D cy sa sv b Ls z xs tx s0 a0 M R s m c) (hover : va_AO "PinBarrel$Box" s) (hN : meth.name = (mY M).name) (hR : pRi D (pad z sa b) cy Ls xs tx w H) (hS : va_S (pA z s0.heap.size) s.heap H locs)
    (hz : w.1 < pNA → s.heap.size + cells ≤ z + w.1) (hc1 : cells + (w'.1 - w.1) ≤ R.cells) (hc2 : slots + (w'.2.1 - w.2.1) ≤ R.slots)
    (hd : decode (mB M) pc = .ok (i, ln)) (hf : psw M i S w = some (ln, S', w'))
    (k : ∀ (H1 : Heap) (locs1 : List Loc) (cells1 slots1 : Nat), cells1 = cells + (w'.1 - w.1) → slots1 = slots + (w'.2.1 - w.2.1) → pRi D (pad z sa b) cy Ls xs tx w' H1 → va_S (pA z s0.heap.size) s.heap H1 locs1 → W p l e R s m args below meth c H1 locs1 cells1 slots1 Q (F0 m (pc + ln) ls (S'.map (mV (pad z sa b))))) :
    W p l e R s m args below meth c H locs cells slots Q (F0 m pc ls (S.map (mV (pad z sa b)))) := by
  have hx := hC.1
  have hb := hC.2.1
  have hown := hC.2.2.2.1
  have hK := pw_K hC
  have hM := mC_lt M hC.2.2.2.2.1
  have hP := hR.1
  have hD := pD (z := z) (n0 := s0.heap.size) (sa := sa) (b := b) (cy := cy) hR.2.1
  have hA : ∀ q, s.heap.size ≤ q → pA z s0.heap.size q := pcx_A hC
  unfold psw at hf
  split at hf
  · split at hf
    · split at hf
      · rename_i hp
        split at hf
        · cases hf
        · rename_i hin; cases hf
          have ha := pai_eq hp
          exact va_iast hx hb hK hP hD hS _ 0 (pri_arr hR ha (by decide)) (ptys_at cy (by decide)) hin hd fun H1 locs1 q1 _ q3 => k H1 locs1 cells slots (by show _ = cells + (w.1 - w.1); omega) (by show _ = slots + (w.2.1 - w.2.1); omega) (pri_set hR (pri_lt hR ha (fun q => by cases q) (fun q => by rw [q, hR.2.2.2.1.1] at ha; cases ha) (fun q => by rw [q, hR.2.2.2.1.2] at ha; cases ha)) q1 (fun t x q => by cases q; decide)) q3
      · cases hf
    · cases hf
  · split at hf
    · split at hf
      · rename_i hp
        split at hf
        · cases hf
        · rename_i hin; cases hf
          have ha := pai_eq hp
          exact va_cast hx hb hK hP hD hS _ 2 (pri_arr hR ha (by decide)) (ptys_at cy (by decide)) hin hd fun H1 locs1 q1 _ q3 => k H1 locs1 cells slots (by show _ = cells + (w.1 - w.1); omega) (by show _ = slots + (w.2.1 - w.2.1); omega) (pri_set hR (pri_lt hR ha (fun q => by cases q) (fun q => by rw [q, hR.2.2.2.1.1] at ha; cases ha) (fun q => by rw [q, hR.2.2.2.1.2] at ha; cases ha)) q1 (fun t x q => by cases q; decide)) q3
      · cases hf
    · cases hf
  · split at hf
    · split at hf
      · rename_i hp
        split at hf
        · cases hf
        · rename_i hin; cases hf
          have ha := pai_eq hp
          exact va_zast hx hb hK hP hD hS _ 3 (pri_arr hR ha (by decide)) (ptys_at cy (by decide)) hin hd fun H1 locs1 q1 _ q3 => k H1 locs1 cells slots (by show _ = cells + (w.1 - w.1); omega) (by show _ = slots + (w.2.1 - w.2.1); omega) (pri_set hR (pri_lt hR ha (fun q => by cases q) (fun q => by rw [q, hR.2.2.2.1.1] at ha; cases ha) (fun q => by rw [q, hR.2.2.2.1.2] at ha; cases ha)) q1 (fun t x q => by cases q; decide)) q3
      · split at hf
        · rename_i hp
          split at hf
          · cases hf
          · rename_i hin; cases hf
            have ha := pai_eq hp
            exact va_bast hx hb hK hP hD hS _ 4 (pri_arr hR ha (by decide)) (ptys_at cy (by decide)) hin hd fun H1 locs1 q1 _ q3 => k H1 locs1 cells slots (by show _ = cells + (w.1 - w.1); omega) (by show _ = slots + (w.2.1 - w.2.1); omega) (pri_set hR (pri_lt hR ha (fun q => by cases q) (fun q => by rw [q, hR.2.2.2.1.1] at ha; cases ha) (fun q => by rw [q, hR.2.2.2.1.2] at ha; cases ha)) q1 (fun t x q => by cases q; decide)) q3
        · cases hf
    · cases hf
  · split at hf
    · split at hf
      · rename_i hp
        split at hf
        · cases hf
        · rename_i hin; cases hf
          have ha := paL_eq hp
          exact va_last hx hb hK hP hD hS _ 1 (pri_arr hR ha (by decide)) (ptys_at cy (by decide)) hin hd fun H1 locs1 q1 _ q3 => k H1 locs1 cells slots (by show _ = cells + (w.1 - w.1); omega) (by show _ = slots + (w.2.1 - w.2.1); omega) (pri_set hR (pri_lt hR ha (fun q => by cases q) (fun q => by rw [q, hR.2.2.2.1.1] at ha; cases ha) (fun q => by rw [q, hR.2.2.2.1.2] at ha; cases ha)) q1 (fun t x q => by cases q; decide)) q3
      · cases hf
    · cases hf
  · split at hf
    · split at hf
      · rename_i n f hp
        split at hf
        · cases hf
        · rename_i hin; cases hf
          have ha := paQ_eq hp
          obtain ⟨fs, hv⟩ := isOb_eq (fun q => hin (Or.inl q))
          refine va_astq (r := (RX0, TX0, 10)) hx hb hK hP hD hS _ 6 _ 0 (pri_arr hR ha (by decide)) (ptys_at cy (by decide)) (pri_obj hR hv (by decide)) rfl (fun q => hin (Or.inr q)) hd fun H1 locs1 q1 _ q3 => k H1 locs1 cells slots (by show _ = cells + (w.1 - w.1); omega) (by show _ = slots + (w.2.1 - w.2.1); omega) (pri_set hR (pri_lt hR ha (fun q => by cases q) (fun q => by rw [q, hR.2.2.2.1.1] at ha; cases ha) (fun q => by rw [q, hR.2.2.2.1.2] at ha; cases ha)) ?_ (fun t x q => by cases q; decide)) q3
          rw [mE_q, mQ_up]
          exact q1
      · cases hf
    · cases hf
  · split at hf
    · rename_i idx9 _ v9 a9 S9
      split at hf
      · rename_i ci k9 hl
        split at hf
        · rename_i hcond
          obtain ⟨hft, hfi⟩ := hcond
          split at hf
          · rename_i w9 hpp
            cases hf
            unfold ppf at hpp
            split at hpp
            · rename_i c9 fs ha
              split at hpp
              · rename_i hcc
                obtain ⟨rfl, hk9⟩ := hcc
                cases hpp
                obtain ⟨C, T, N, g1, g2, g3, g4, g5⟩ := okF_all _ hM _ (plk_mem hl)
                have hci : c9 < 8 := (List.getElem?_eq_some_iff.mp g1).1
                obtain ⟨C', T', N', ty, u1, u2, u3, u4, u5, u6, u7, u8, u9, u10, u11⟩ := okU_all c9 hci
                cases g1.symm.trans u1
                have ho := pri_obj hR ha hci
                have hlt : _ < w.1 := pri_lt hR ha (fun q => by cases q; exact absurd hci (by decide)) (fun q => by rw [q, hR.2.2.2.1.1] at ha; cases ha) (fun q => by rw [q, hR.2.2.2.1.2] at ha; cases ha; exact absurd hci (by decide))
                obtain ⟨f1, f2⟩ := pfit_ok (ad := pad z sa b) hft
                have f3 := u5 _ g2
                dsimp only at f3 g1 g2 g3 g4 g5
                rw [f3] at f1 f2
                have fin : ∀ (H1 : Heap) (locs1 : List Loc), va_P D vwCl ((mW (pad z sa b) cy w).set a9 (pad z sa b a9, .inr (c9, (fs.map (mV (pad z sa b))).set k9 (mV (pad z sa b) v9)))) H1 → va_D (pA z s0.heap.size) ((mW (pad z sa b) cy w).set a9 (pad z sa b a9, .inr (c9, (fs.map (mV (pad z sa b))).set k9 (mV (pad z sa b) v9)))) → va_S (pA z s0.heap.size) s.heap H1 locs1 → W p l e R s m args below meth c H1 locs1 cells slots Q (F0 m (pc + 3) ls (List.map (mV (pad z sa b)) S')) := fun H1 locs1 q1 _ q3 => k H1 locs1 cells slots (by show _ = cells + (w.1 - w.1); omega) (by show _ = slots + (w.2.1 - w.2.1); omega) (pri_set hR hlt (by rw [mE_o, List.map_set]; exact q1) (fun t x q => by cases q)) q3
                cases hfn : (T k9).2.2.2 with
                | false => exact va_put (own := cN (mC M)) (ref := C) (args := args) hx hb (Ts := u_ws C T N) (fun w hw => pw_tg hC (u_wsTG u2 w hw) args) (fun w hw => hw) ty u3 u4 hown hK hP hD hS _ ho g1 k9 g2 (pw_tg hC g3 args) (fun x hx => by rw [← g4]; exact hx) hfn (u3 _ g2) f2 f1 (by rw [List.length_map]; exact hk9) hd fin
                | true =>
                  have hm : mI M = c9 ∧ (mYs.getD M x).name = "<init>" := by
                    rcases hfi with q | q
                    · rw [List.getD_eq_getElem?_getD, g5, hfn] at q
                      exact absurd q (by decide)
                    · exact q
                  exact va_putF (own := cN (mC M)) (ref := C) (args := args) hx hb (Ts := u_ws C T N) (fun w hw => pw_tg hC (u_wsTG u2 w hw) args) (fun w hw => hw) ty u3 u4 hown hK hP hD hS _ ho g1 k9 g2 (pw_tg hC g3 args) (fun x hx => by rw [← g4]; exact hx) hfn (hN.trans hm.2) (by rw [g4]; exact mI_own hM (by rw [hm.1]; exact g1)) (u3 _ g2) f2 f1 (by rw [List.length_map]; exact hk9) hd fin
              · cases hpp
            · cases hpp
          · cases hf
        · cases hf
      · cases hf
    · cases hf
  · split at hf
    · rename_i n S9
      split at hf
      · rename_i hcond
        obtain ⟨hn, h0, h100⟩ := hcond
        have hz1 := hz hn
        split at hf
        · cases hf; exact pnewa_snd hC hR hS hn h0 h100 hz1 0 .int .int _ (by decide) rfl rfl hd okA_int (fun _ => rfl) (show n.toNatClampNeg * 4 ≤ 536870912 by omega) (fun _ => rfl) hc1 hc2 k
        · cases hf; exact pnewa_snd hC hR hS hn h0 h100 hz1 1 .long .long _ (by decide) rfl rfl hd okA_long (fun _ => rfl) (show n.toNatClampNeg * 8 ≤ 536870912 by omega) (fun _ => rfl) hc1 hc2 k
        · cases hf; exact pnewa_snd hC hR hS hn h0 h100 hz1 2 .char .char _ (by decide) rfl rfl hd okA_char (fun _ => rfl) (show n.toNatClampNeg * 2 ≤ 536870912 by omega) (fun _ => rfl) hc1 hc2 k
        · cases hf; exact pnewa_snd hC hR hS hn h0 h100 hz1 3 .boolean .boolean _ (by decide) rfl rfl hd okA_boolean (fun _ => rfl) (show n.toNatClampNeg * 1 ≤ 536870912 by omega) (fun _ => rfl) hc1 hc2 k
        · cases hf; exact pnewa_snd hC hR hS hn h0 h100 hz1 4 .byte .byte _ (by decide) rfl rfl hd okA_byte (fun _ => rfl) (show n.toNatClampNeg * 1 ≤ 536870912 by omega) (fun _ => rfl) hc1 hc2 k
        · cases hf
      · cases hf
    · cases hf
  · split at hf
    · rename_i idx _ n S9
      split at hf
      · rename_i hcond
        obtain ⟨hl, hn, h0, h100⟩ := hcond
        have hz1 := hz hn
        cases hf
        obtain ⟨_, r, g1, g2⟩ := okN_all _ hM _ (plk_mem hl)
        cases g1
        refine va_newq (C := RX0) (own := cN (mC M)) (N' := n.toNatClampNeg) hx hb hown (pw_tg hC g2 args) hover hK hP hD hS hA h0 rfl (by omega) (pcn1 (x := w.1) hc1) (pcn2 (x := w.2.1) hc2) hd fun q cA H1 hK1 hP1 hD1 hS1 => W_size fun hsz => ?_
        have hcA : cA = cy 6 := pty_eq (t := 6) (by decide) hK1
        subst hcA
        have hq := pq_eq hP1 hD1 hn (by omega)
        subst hq
        exact k H1 locs (cells + 1) (slots + n.toNatClampNeg) (by show _ = cells + ((w.1 + 1) - w.1); omega) (by show _ = slots + ((w.2.1 + n.toNatClampNeg) - w.2.1); omega) (pri_new hR hn hP1 (fun t' x' q => by cases q; decide)) hS1
      · cases hf
    · cases hf
  · split at hf
    · rename_i idx _ ci hl
      split at hf
      · rename_i hn
        have hz1 := hz hn
        cases hf
        obtain ⟨hci, r, g1, g2⟩ := okN_all _ hM _ (plk_mem hl)
        obtain ⟨C, T, N, ty, u1, u2, u3, u4, u5, u6, u7, u8, u9, u10, u11⟩ := okU_all ci hci
        cases g1.symm.trans u1
        refine va_new (own := cN (mC M)) hx hb (Ts := u_ws C T N) (fun w hw => pw_tg hC (u_wsTG u2 w hw) args) (fun w hw => hw) ty u3 hown (pw_tg hC g2 args) (pw_tg hC u7 args) (pw_tg hC u8 args) hK hP hD hS hA g1 (fs := oF ci) u10 (pcn1 (x := w.1) hc1) (by rw [← u9]; exact pcn2 (x := w.2.1) (n := (oF ci).length) hc2) hd fun q H1 hP1 hD1 hS1 => W_size fun hsz => ?_
        have hq := pq_eq hP1 hD1 hn (by omega)
        subst hq
        exact k H1 locs (cells + 1) (slots + N) (by show _ = cells + ((w.1 + 1) - w.1); omega) (by show _ = slots + ((w.2.1 + (oF ci).length) - w.2.1); omega) (pri_new hR hn (by rw [mE_o, u11]; exact hP1) (fun t' x' q => by cases q)) hS1
      · cases hf
    · cases hf
  · cases hf
end PSW
