/-! THE CLAIM OUT OF ONE WALK OF THE LAW'S BODY. Your part is whole_start (and what it stands on); all else here is the same for every law, but numbers. -/
def R_law : String := "PinBarrelLaw"
def lw_P (b : Addr) (xs : List Int32) (args : Array Value) (s : State) : Prop := args = #[.ref b] ∧ s.IntsAt b xs ∧ xs.length ≤ 260 ∧ (Jvm.Cond.and given_1 narrow_1).before args s = true
def lw_Q (_ : Array Value) (s : State) (o : Outcome) (t : State) : Prop := o = .returned (some (.int 1)) ∧ Framed s o t [] 600104 7301314
def lw_Z (below : List Frame) (a : Array Value) (s : State) : State → Prop := fun t => ∃ o, t.status = .running ∧ Ended t below o ∧ lw_Q a s o t
/-- the law's own end, with 1 on the stack, nothing written that was there before, its room as the claim has it -/
theorem lw_ret {p : Program} {l : Launch} {e : Env} {s : State} {m : MethodId} {below : List Frame} {meth : Method} {c : Code} {b : Nat} (hx : p.tables.exec = Jvm.exec) (hb : c.code = code) (hr : meth.sig.returnType = ret) (hlocks : meth.locks = false) {pc : Nat} {H : Heap} {ls : Array Slot} (hdg : decode code pc = .ok (.ireturn, 1)) : W p l e room_1 s m #[Value.ref b] below meth c H [] 600104 7301314 (lw_Z below #[Value.ref b] s) (F0 m pc ls [.int 1]) := by
  intro T hT X
  obtain ⟨fs, hret, hrun, hended, hW, hframe⟩ := X.leave (v := some (.int 1)) (hlocks := hlocks) (fun h => by rw [hr] at h; cases h)
  have hmeth' : T.vm.method? m = some meth := X.method'
  refine ⟨T.setFrames fs, ?_, .returned (some (.int 1)), hrun, hended, rfl, ⟨_, rfl⟩, hW, hframe⟩
  jvm_step X.here [X.here.top, hx, hb, hdg, hmeth', hr, ret, narrow_b1]
  (try refine ⟨rfl, ?_⟩); (try refine ⟨rfl, ?_⟩)
  first | (intro acts; rw [hret _ acts rfl rfl rfl]) | rw [hret _ _ rfl rfl rfl]
  exact Steps.refl _
/-- what holds at the law's entry: the machine, the code, the tables' words (any of lw_tbl by 'hts w (by decide +kernel)'), the script of L ints xs at the cell b, what the Statement gives of the start (any of its parts by flat_of_before) -/
def lw_At (p : Program) (s : State) (m : MethodId) (meth : Method) (c : Code) (b L : Nat) (xs : Nat → Int32) : Prop :=
  p.tables.exec = Jvm.exec ∧ c.code = code ∧ meth.sig.returnType = ret ∧ c.maxLocals = 3 ∧ s.vm.findClass R_law = some m.cls ∧ (∀ w ∈ lw_tbl, w.before #[Value.ref b] s = true) ∧ va_X b L xs s s.heap ∧ b < s.heap.size ∧ meth.locks = false ∧ (Jvm.Cond.and given_1 narrow_1).before #[Value.ref b] s = true
theorem rI_ge {z : Int} (h : 0 ≤ z ∧ z < 2147483648) : (0 : Int32) ≤ Int32.ofInt z := by
  rw [Int32.le_iff_toInt_le, toInt_iv ⟨by omega, h.2⟩, show (0 : Int32).toInt = 0 from by decide]
  exact h.1
theorem st_arg (k : Nat) : nI 65 + nI 3 * nI k = Int32.ofInt ((65 + 3 * k : Nat) : Int) := by
  rw [Int32.ofInt_eq_ofNat]
  show Int32.ofNat 65 + Int32.ofNat 3 * Int32.ofNat k = Int32.ofNat (65 + 3 * k)
  rw [Int32.ofNat_add, Int32.ofNat_mul]
theorem s0_ch : pch (sTx.getD 0 []) := by
  unfold pch
  decide +kernel
theorem P8_1 {v : PW} (h : P8 v) (L : Nat) (xs : Nat → Int32) (tx : List Nat) : (TW P1 (G1 L xs tx) 0 v).1 = pNA := h.1
set_option maxHeartbeats 4000000 in
theorem whole_start {p : Program} {e : Env} {s : State} {m : MethodId} {below : List Frame} {meth : Method} {c : Code} (l : Launch) (hflags : l.flags = flags0) {b L : Nat} {xs : Nat → Int32} (hL : L ≤ 260) (C0 : lw_At p s m meth c b L xs) : W p l e room_1 s m #[Value.ref b] below meth c s.heap [] 0 0 (lw_Z below #[Value.ref b] s) (entryFrame m ([Value.ref b] : List Value).toArray 3) := by
  obtain ⟨hx, hb, hr, hml, hown, hts, hX, hbl, hlocks, hgv⟩ := id C0
  have hF : ∀ w ∈ FL, w.before #[Value.ref b] s = true := flat_of_before _ hgv
  have hT : ∀ w ∈ TG, w.before #[Value.ref b] s = true := fun w h => hts w (tg_in h)
  have hown : s.vm.findClass "PinBarrelLaw" = some m.cls := hown
  have hsn : Nat.blt L 2147483648 = true := Nat.ble_eq_true_of_le (show L + 1 ≤ 2147483648 by omega)
  obtain ⟨D, hD⟩ := cls_K hts
  obtain ⟨Dt, hDt⟩ := clt_K hts
  obtain ⟨cy, hcy⟩ := arr_K hts
  have hK : va_K D vwCl (ptys cy) s := ⟨hD, hcy⟩
  have hl := lv_entry [.ref b] (n := 3) (Nat.le_of_ble_eq_true rfl)
  rw [lg_entry_eq]
  generalize (lg_sl [.ref b] ++ List.replicate (3 - (lg_sl [.ref b]).length) Slot.unset).toArray = ls at hl ⊢
  have hl : lv_has ls 3 [(0, .ref b)] := hl
  obtain ⟨v8, hP8, hw8⟩ := w8
  have hA0 : ∀ a : Nat, a < s.heap.size → ¬ pA s.heap.size s.heap.size a := fun a h y => absurd y.1 (Nat.not_le.mpr h)
  obtain ⟨sa0, sv0, hS0, -⟩ := str_K hts hF hA0
  obtain ⟨sa1, sv1, -, hFx1⟩ := mk_Fx (l := l) (H9 := s.heap) hts hF hD hcy hX hbl (fun q _ => rfl) (Nat.le_refl _) (hS0 0 (by decide)) s0_ch
  generalize htx1 : sTx.getD 0 [] = tx1 at hFx1
  -- the object
  have hR0 : pRi D (pad s.heap.size sa1 b) cy L xs tx1 (W00 L xs tx1) s.heap := ⟨fun k q h => (by cases h), Nat.zero_le _, fun a _ h1 h2 => (by
    show G1 L xs tx1 a = _
    unfold G1
    rw [if_neg h1, if_neg h2]
    rfl), ⟨(show G1 L xs tx1 pSC = _ from if_pos rfl), (by
    show G1 L xs tx1 pTX = _
    unfold G1
    rw [if_neg (by decide), if_pos rfl])⟩, fun a t y h => (by
    have h : G1 L xs tx1 a = .inl (t, y) := h
    unfold G1 at h
    by_cases n1 : a = pSC
    · exact Or.inr n1
    · rw [if_neg n1] at h
      by_cases n2 : a = pTX
      · rw [if_pos n2] at h
        cases h
      · rw [if_neg n2] at h
        cases h)⟩
  obtain ⟨-, r9, g1, g2⟩ := okN_all 13 (by decide) (25, 7) (by decide +kernel)
  obtain ⟨C, T, N, ty, u1, u2, u3, u4, u5, u6, u7, u8, u9, u10, u11⟩ := okU_all 7 (by decide)
  cases g1.symm.trans u1
  have hN : N = 10 := u9.symm.trans rfl
  refine va_new (own := cN 13) hx hb (Ts := u_ws C T N) (fun w hw => hT w (u_wsTG u2 w hw)) (fun w hw => hw) ty u3 hown (hT _ g2) (hT _ u7) (hT _ u8) hK (ws := mW (pad s.heap.size sa1 b) cy (W00 L xs tx1)) (A := pA s.heap.size s.heap.size) hR0.1 (pD hR0.2.1) va_S.rf (fun q h => ⟨h, Or.inr h⟩) u1 (fs := oF 7) u10 (by show 0 + 1 ≤ 600104; decide) (by show 0 + N ≤ 7301314; omega) (by decide +kernel : decode cL_law 0 = .ok (.new 25, 3)) (fun q H1 hP1 hD1 hS1 => W_size fun hsz => ?_)
  have hq := pq_eq hP1 hD1 (show (0 : Nat) < 169 from by decide) (by show H1.size ≤ s.heap.size + 0 + 1; omega)
  subst hq
  have hR1 : pRi D (pad s.heap.size sa1 b) cy L xs tx1 (pnw (W00 L xs tx1) 10 (.inr (7, oF 7))) H1 := pri_new hR0 (show (0 : Nat) < 169 from by decide) (by rw [mE_o, u11]; exact hP1) (fun t' x' q => by cases q)
  refine lv_dup hx hb (by decide +kernel : decode cL_law 3 = .ok (.dup, 1)) rfl ?_
  -- its constructor
  have hM1 := prun_all hFx1 300 8 [.ref 0] _ none _ (by decide) (hw8 L xs tx1)
  unfold pMet at hM1
  obtain ⟨y1, y2, y3, y4, y5⟩ := okY_to_227 8 (by decide)
  rw [mWd_c] at y1
  have e8 : mR 8 = none := rfl
  rw [e8] at y1 hM1
  have hS1a : va_S (fun q => s.heap.size ≤ q) s.heap H1 [] := ⟨hS1.1, fun q h1 h2 => hS1.2.1 q h1 (fun y => h2 y.1), fun q h => by cases h⟩
  have hv1 : v8.1 = 169 := hP8.1
  have hv2 : v8.2.1 ≤ 10000 := hP8.2.1
  refine lb_go (s0 := sH s s.heap) (va_runI (Ts := TG) (As := []) (n := 0) (nL := 3) (rest := [.ref (pad s.heap.size sa1 b 0)]) ⟨hx, hb, hml, hown, hT⟩ hM1 ⟨pj_cb hT y1 y2 okT_l_PinBarrelLaw_241 (okn_d (by decide +kernel) y5) ⟨by show mF 8 + 1 ≤ 16; decide +kernel, by show 8 + (mN 8 + 11) + mLo 8 ≤ 628; decide +kernel⟩, rfl, hT _ okS_ini⟩ ⟨fun _ _ _ _ h => h, fun U hU hWU => ⟨rfl, sH_warm hWU, by rw [hU]; exact hS1, by rw [hU]; exact hR1, fun _ => by rw [hU]; exact hsz⟩⟩ rfl rfl hl.1 rfl (by show 2 * 0 + (1 + 0) ≤ 8; decide) (by decide +kernel : decode cL_law 4 = .ok (.invokespecial 241, 3)) ⟨by show 0 + 1 + (v8.1 - (0 + 1)) ≤ 600104; omega, by show 0 + N + ((v8.2.1 + 0) - (0 + 10)) ≤ 7301314; omega⟩) (Nat.le_refl _) hS1a hS1 (fun H2 locs2 hR2 hS2 hS2b => ?_)
  refine W.widen (k := 200) (n := 10100) (by show 0 + 1 + (v8.1 - (0 + 1)) ≤ 200; omega) (by show 0 + N + ((v8.2.1 + 0) - (0 + 10)) ≤ 10100; omega) ?_
  refine lv_astore_n hx hb (by decide +kernel : decode cL_law 7 = .ok (.astore_n 1, 1)) rfl hl (by decide) rfl (fun ls hl => ?_)
  refine lv_aload_n hx hb (by decide +kernel : decode cL_law 8 = .ok (.aload_n 1, 1)) rfl (lv_at hl 0 rfl) ?_
  refine lv_aload_n hx hb (by decide +kernel : decode cL_law 9 = .ok (.aload_n 0, 1)) rfl (lv_at hl 1 rfl) ?_
  -- the text
  have hkH2 : ∀ q : Nat, q < s.heap.size → H2[q]? = s.heap[q]? := fun q h => hS2.2.1 q h (Nat.not_le.mpr h)
  have hsz2 : s.heap.size ≤ H2.size := hS2.1
  have h169 : s.heap.size + 169 ≤ H2.size := by
    have h1 := (hR2.1 168 _ (mW_at (by rw [P8_1 hP8]; decide))).lt
    have h2 : pad s.heap.size sa1 b 168 = s.heap.size + 168 := pad_lt (by decide)
    have h3 : pad s.heap.size sa1 b 168 < H2.size := h1
    omega
  obtain ⟨dO, dT, sL, aL, hCx⟩ := mk_Cx hts hF hDt hcy hX hbl (by omega) hkH2 hsz2
  have hWS : ∀ H' : Heap, WS Dt (sH s H2) [] H' := fun H' => ⟨fun k q h => (by cases h), ⟨fun i j p q h => (by cases h), fun k q h => (by cases h)⟩⟩
  refine tx_go (va_runS (Ts := TG) (As := [.ref b]) (n := 1) (nL := 3) (rest := [.ref (pad s.heap.size sa1 b 0)]) ⟨hx, hb, hml, hown, hT⟩ (jt_text hCx) ⟨pj_cb hT okT_L_text_c okT_i_PinBarrelLaw okT_l_PinBarrelLaw_242 ⟨by decide, by decide, by decide +kernel⟩ ⟨by show 9 + 1 ≤ 16; decide, by show 8 + (6 + 11) + 300 ≤ 628; decide⟩, hT _ okT_L_text_s⟩ ⟨tP_blind, fun U hU hWU => ⟨rfl, sH_warm hWU, by rw [hU]; exact va_S.rf, hWS _⟩⟩ rfl rfl hl.1 rfl (by show 2 * 0 + (1 + 0) ≤ 8; decide) (by decide +kernel : decode cL_law 10 = .ok (.invokestatic 242, 3)) ⟨by show 200 + 124 ≤ 600104; decide, by show 10100 + 192000 ≤ 7301314; decide⟩) hS2 (fun r H3 locs3 hv hS3 hk3 => ?_)
  obtain ⟨st, q, rfl, g, hg, hgt⟩ := hv
  refine W.widen (k := 324) (n := 202100) (by decide) (by decide) ?_
  have hkH3 : ∀ q9 : Nat, q9 < s.heap.size → H3[q9]? = s.heap[q9]? := fun q9 h => hS3.2.1 q9 h (Nat.not_le.mpr h)
  have hsz3 : s.heap.size ≤ H3.size := hS3.1
  obtain ⟨hasc, hlen⟩ := text_asc L xs
  have a1 : H2.size ≤ st := hg.2.2 0 _ rfl
  have a2 : H2.size ≤ q := hg.2.2 1 _ rfl
  have a3 : st < H3.size := (hg.1 0 _ rfl).lt
  have a4 : q < H3.size := (hg.1 1 _ rfl).lt
  have hmem : ∀ j : Nat, j < (tText L xs).length → (tText L xs).getD j 0 ∈ tText L xs := fun j hj => getD_mem hj 0
  have hNo : ∀ x : Nat, H2.size ≤ x → x < H3.size → ¬ pA s.heap.size H3.size x := fun x h1 h2 y => by
    rcases y.2 with z | z
    · have z : x < s.heap.size + 169 := z
      omega
    · exact absurd z (Nat.not_le.mpr h2)
  have htx : pSt (tText L xs) st q (pA s.heap.size H3.size) (sH s H3) H3 := pst_new (Dt := Dt) (cB := cy 4) (a := #[Value.ref b]) (va_K.moved sH_alike ⟨hDt, byt_K hcy⟩) (fun w hw => sH_tbl hkH3 hts w (tg_in hw)) hg.1 (fun j hj => by rw [hgt j hj]; exact sb_of _ (hasc _ (hmem j hj)).2) (hNo st a1 a3) (hNo q a2 a4)
  obtain ⟨sa2, sv2, hst2, hFx2⟩ := mk_Fx (l := l) hts hF hD hcy hX hbl hkH3 hsz3 htx ⟨by omega, fun c hc => (hasc c hc).2⟩
  have hR3 : pRi D (pad s.heap.size sa1 b) cy L xs tx1 (TW P1 (G1 L xs tx1) 0 v8) H3 := ⟨hR2.1.kept (fun k x hx => hk3.2 x.1 ((hR2.1 k x hx).lt)), hR2.2⟩
  have hR3 : pRi D (pad s.heap.size sa2 b) cy L xs (tText L xs) (TW P1 (G1 L xs (tText L xs)) 0 v8) H3 := pri_tx hP8 hR3
  have e1 : pad s.heap.size sa2 b pTX = st := pad_tx hst2
  have e2 : pad s.heap.size sa1 b 0 = pad s.heap.size sa2 b 0 := pad_eq (by decide)
  have e3 : pad s.heap.size sa2 b pSC = b := pad_sc
  generalize hbx : pad s.heap.size sa1 b 0 = bx9 at *
  -- what the law does behind its loop
  have hEnd : ∀ (H : Heap) (locs : List Loc) (ls : Array Slot) (w : PW) (mm : Row) (Hh : Nat → Row) (nn : Nat), lv_has ls 3 [(2, .int (nI 12)), (1, .ref bx9), (0, .ref b)] → LW w mm Hh nn none L xs → INV 360 mm Hh nn → pRi D (pad s.heap.size sa2 b) cy L xs (tText L xs) w H → va_S (fun q => s.heap.size ≤ q) s.heap H locs → va_S (pA s.heap.size H3.size) H3 H [] → W p l e room_1 s m #[Value.ref b] below meth c H locs 324 202100 (lw_Z below #[Value.ref b] s) (F0 m 46 ls []) := by
    intro H locs ls w mm Hh nn hl hLW hI hR hS hSb
    refine lv_aload_n hx hb (by decide +kernel : decode cL_law 46 = .ok (.aload_n 1, 1)) rfl (lv_at hl 1 rfl) ?_
    obtain ⟨n4, ⟨o4, w4⟩, hr4, ho4, Hx, nx, kx, hLW4⟩ := q224 (Q := fun o w' => o = rI 1 ∧ ∃ (Hx : Nat → Row) (nx : Nat) (kx : Option Row), LW w' mm Hx nx kx L xs) hLW (fun w' Hx nx kx h => ⟨rfl, Hx, nx, kx, h⟩)
    have ho4 : o4 = rI 1 := ho4
    subst ho4
    refine lw_call (M' := 224) (av := [.ref 0]) (rest := []) hx hb hml hown hT hFx2 okT_l_PinBarrelLaw_253 okS_agr (by decide) (by show okn 224 1; decide +kernel) ⟨by show mF 224 + 1 ≤ 16; decide +kernel, by show 8 + (mN 224 + 11) + mLo 224 ≤ 628; decide +kernel⟩ hr4 hLW.sh.1 hLW4.sh.1 hR hS hSb hl.1 (by exact Nat.le_of_ble_eq_true rfl) (by show 324 ≤ 600104; decide) (by show 202100 ≤ 7301314; decide) (by decide +kernel : decode cL_law 47 = .ok (.invokestatic 253, 3)) (by show _ = [Value.ref (pad s.heap.size sa2 b 0)]; rw [← e2]) (fun H locs hR hS hSb => ?_)
    refine lv_if_eq hx hb (x := Int32.ofInt 1) (by decide +kernel : decode cL_law 50 = .ok (.ifCond .eq 17, 3)) (tgt := 67) (by decide) (fun q => absurd q (by decide)) fun _ => ?_
    refine lv_aload_n hx hb (by decide +kernel : decode cL_law 53 = .ok (.aload_n 1, 1)) rfl (lv_at hl 1 rfl) ?_
    refine lv_aload_n hx hb (by decide +kernel : decode cL_law 54 = .ok (.aload_n 0, 1)) rfl (lv_at hl 2 rfl) ?_
    refine lv_bipush (v := Int32.ofInt 102) hx hb (by decide +kernel : decode cL_law 55 = .ok (.bipush 102, 2)) (by decide) ?_
    obtain ⟨n5, ⟨o5, w5⟩, hr5, ho5, hs5⟩ := q226 (x2 := 102) (Q := fun o w' => o = rI 1 ∧ Sh w') hsn hLW4 hI.1.2.1 (by have := hI.1.2.2; omega) ⟨by decide, by decide⟩ (fun w' h => ⟨rfl, h⟩)
    have ho5 : o5 = rI 1 := ho5
    subst ho5
    refine lw_call (M' := 226) (av := [.ref 0, .ref pSC, iv 102]) (rest := []) hx hb hml hown hT hFx2 okT_l_PinBarrelLaw_256 okS_for (by decide) (by show okn 226 3; decide +kernel) ⟨by show mF 226 + 1 ≤ 16; decide +kernel, by show 8 + (mN 226 + 11) + mLo 226 ≤ 628; decide +kernel⟩ hr5 hLW4.sh.1 hs5.1 hR hS hSb hl.1 (by exact Nat.le_of_ble_eq_true rfl) (by show 324 ≤ 600104; decide) (by show 202100 ≤ 7301314; decide) (by decide +kernel : decode cL_law 57 = .ok (.invokestatic 256, 3)) (by show _ = [iv 102, Value.ref (pad s.heap.size sa2 b pSC), Value.ref (pad s.heap.size sa2 b 0)]; rw [e3, ← e2]; rfl) (fun H locs hR hS hSb => ?_)
    refine lv_if_eq hx hb (x := Int32.ofInt 1) (by decide +kernel : decode cL_law 60 = .ok (.ifCond .eq 7, 3)) (tgt := 67) (by decide) (fun q => absurd q (by decide)) fun _ => ?_
    refine lv_iconst hx hb (by decide +kernel : decode cL_law 63 = .ok (.iconst 1, 1)) (v := 1) rfl ?_
    refine lv_goto hx hb (by decide +kernel : decode cL_law 64 = .ok (.goto 4, 3)) (tgt := 68) (by decide) ?_
    refine va_forget hS.2.2 ?_
    exact W.widen (k := 600104) (n := 7301314) (by decide) (by decide) (lw_ret hx hb hr hlocks (by decide +kernel : decode cL_law 68 = .ok (.ireturn, 1)))
  -- its loop
  have hLoop : ∀ (n k : Nat), n + k = 12 → ∀ (H : Heap) (locs : List Loc) (ls : Array Slot) (w : PW) (mm : Row) (Hh : Nat → Row) (nn : Nat), lv_has ls 3 [(2, .int (nI k)), (1, .ref bx9), (0, .ref b)] → LW w mm Hh nn none L xs → INV (30 * k) mm Hh nn → pRi D (pad s.heap.size sa2 b) cy L xs (tText L xs) w H → va_S (fun q => s.heap.size ≤ q) s.heap H locs → va_S (pA s.heap.size H3.size) H3 H [] → W p l e room_1 s m #[Value.ref b] below meth c H locs 324 202100 (lw_Z below #[Value.ref b] s) (F0 m 23 ls []) := by
    intro n
    induction n with
    | zero =>
      intro k hk H locs ls w mm Hh nn hl hLW hI hR hS hSb
      have hk : k = 12 := by omega
      subst hk
      refine lv_iload_n hx hb (by decide +kernel : decode cL_law 23 = .ok (.iload_n 2, 1)) rfl (lv_at hl 0 rfl) ?_
      refine lv_bipush (v := nI 12) hx hb (by decide +kernel : decode cL_law 24 = .ok (.bipush 12, 2)) (by decide) ?_
      refine lv_icmp_ge hx hb (by decide +kernel : decode cL_law 26 = .ok (.if_icmp .ge 20, 3)) (tgt := 46) (by decide) (fun _ => ?_) fun q => absurd (nI_le (Nat.le_refl 12) (by decide)) q
      exact hEnd H locs ls w mm Hh nn hl hLW hI hR hS hSb
    | succ n ih =>
      intro k hk H locs ls w mm Hh nn hl hLW hI hR hS hSb
      refine lv_iload_n hx hb (by decide +kernel : decode cL_law 23 = .ok (.iload_n 2, 1)) rfl (lv_at hl 0 rfl) ?_
      refine lv_bipush (v := nI 12) hx hb (by decide +kernel : decode cL_law 24 = .ok (.bipush 12, 2)) (by decide) ?_
      refine lv_icmp_ge hx hb (by decide +kernel : decode cL_law 26 = .ok (.if_icmp .ge 20, 3)) (tgt := 46) (by decide) (fun q => absurd q (nI_ge (show k < 12 by omega) (by decide))) fun _ => ?_
      refine lv_aload_n hx hb (by decide +kernel : decode cL_law 29 = .ok (.aload_n 1, 1)) rfl (lv_at hl 1 rfl) ?_
      refine lv_aload_n hx hb (by decide +kernel : decode cL_law 30 = .ok (.aload_n 0, 1)) rfl (lv_at hl 2 rfl) ?_
      refine lv_bipush (v := nI 65) hx hb (by decide +kernel : decode cL_law 31 = .ok (.bipush 65, 2)) (by decide) ?_
      refine lv_iconst hx hb (by decide +kernel : decode cL_law 33 = .ok (.iconst 3, 1)) (v := nI 3) rfl ?_
      refine lv_iload_n hx hb (by decide +kernel : decode cL_law 34 = .ok (.iload_n 2, 1)) rfl (lv_at hl 0 rfl) ?_
      refine lv_imul hx hb (by decide +kernel : decode cL_law 35 = .ok (.imul, 1)) ?_
      refine lv_iadd hx hb (by decide +kernel : decode cL_law 36 = .ok (.iadd, 1)) ?_
      rw [st_arg]
      obtain ⟨n3, ⟨o3, w3⟩, hr3, ho3, m3, H3x, n3x, hLW3, hI3⟩ := q218 (x2 := ((65 + 3 * k : Nat) : Int)) (Q := fun o w' => o = .inl none ∧ ∃ (m' : Row) (H' : Nat → Row) (n' : Nat), LW w' m' H' n' none L xs ∧ INV (30 * k + 30) m' H' n') hsn hLW hI (by omega) ⟨by omega, by omega⟩ (fun w' m' H' n' h1 h2 => ⟨rfl, m', H', n', h1, h2⟩)
      have ho3 : o3 = .inl none := ho3
      subst ho3
      refine lw_call (M' := 218) (av := [.ref 0, .ref pSC, iv ((65 + 3 * k : Nat) : Int)]) (rest := []) hx hb hml hown hT hFx2 okT_l_PinBarrelLaw_249 okS_step (by decide) (by show okn 218 3; decide +kernel) ⟨by show mF 218 + 1 ≤ 16; decide +kernel, by show 8 + (mN 218 + 11) + mLo 218 ≤ 628; decide +kernel⟩ hr3 hLW.sh.1 hLW3.sh.1 hR hS hSb hl.1 (by exact Nat.le_of_ble_eq_true rfl) (by show 324 ≤ 600104; decide) (by show 202100 ≤ 7301314; decide) (by decide +kernel : decode cL_law 37 = .ok (.invokestatic 249, 3)) (by show _ = [iv ((65 + 3 * k : Nat) : Int), Value.ref (pad s.heap.size sa2 b pSC), Value.ref (pad s.heap.size sa2 b 0)]; rw [e3, ← e2]) (fun H locs hR hS hSb => ?_)
      refine lv_iinc (v := nI (k + 1)) hx hb (by decide +kernel : decode cL_law 40 = .ok (.iinc 2 1, 3)) hl (k := 0) rfl (nI_inc k) (by decide) rfl (fun ls hl => ?_)
      refine lv_goto hx hb (by decide +kernel : decode cL_law 43 = .ok (.goto (-20), 3)) (tgt := 23) (by decide) ?_
      exact ih (k + 1) (by omega) H locs ls w3 m3 H3x n3x hl hLW3 hI3 hR hS hSb
  -- the load
  obtain ⟨hLI, hTX, -⟩ := li0 (n := L) (f := xs) (tl := tText L xs) hP8
  obtain ⟨m2, hm2, m4, m8, m9⟩ := text_load L xs
  obtain ⟨n1, ⟨o1, wA⟩, hr1, ho1, hLW1⟩ := q216 (Q := fun o w' => o = rI (m2 5) ∧ LW w' m2 (fun _ => rBegin 8 1 0) 0 none L xs) ⟨by omega, fun k hk => (hasc _ (hmem k hk)).2⟩ (by omega) (fun c hc => by have := hasc c hc; omega) hLI hTX hm2 (fun w' h => ⟨rfl, h⟩)
  have ho1 : o1 = rI (m2 5) := ho1
  subst ho1
  refine lw_call (M' := 216) (av := [.ref 0, .ref pTX]) (rest := []) hx hb hml hown hT hFx2 okT_l_PinBarrelLaw_246 okS_load (by decide) (by show okn 216 2; decide +kernel) ⟨by show mF 216 + 1 ≤ 16; decide +kernel, by show 8 + (mN 216 + 11) + mLo 216 ≤ 628; decide +kernel⟩ hr1 (P8_1 hP8 _ _ _) hLW1.sh.1 hR3 hS3 va_S.rf hl.1 (by exact Nat.le_of_ble_eq_true rfl) (by show 324 ≤ 600104; decide) (by show 202100 ≤ 7301314; decide) (by decide +kernel : decode cL_law 13 = .ok (.invokestatic 246, 3)) (by show _ = [Value.ref (pad s.heap.size sa2 b pTX), Value.ref (pad s.heap.size sa2 b 0)]; rw [e1, ← e2]; rfl) (fun H locs hR hS hSb => ?_)
  have h5 := hLW1.ok.n
  refine lv_if_ge hx hb (x := Int32.ofInt (m2 5)) (by decide +kernel : decode cL_law 16 = .ok (.ifCond .ge 5, 3)) (tgt := 21) (by decide) (fun _ => ?_) fun q => absurd (rI_ge ⟨by omega, by omega⟩) q
  refine lv_iconst hx hb (by decide +kernel : decode cL_law 21 = .ok (.iconst 0, 1)) (v := nI 0) rfl ?_
  refine lv_istore_n hx hb (by decide +kernel : decode cL_law 22 = .ok (.istore_n 2, 1)) rfl hl (by decide) rfl (fun ls hl => ?_)
  exact hLoop 12 0 rfl H locs ls wA m2 _ 0 hl hLW1 ⟨⟨m4, by omega, by omega⟩, fun j hj => absurd hj (Nat.not_lt_zero j)⟩ hR hS hSb
set_option maxHeartbeats 4000000 in
theorem lw_walk (l : Launch) (hflags : l.flags = flags0) (b : Addr) (xs : List Int32) : MetFree l x (headSpec (Jvm.Cond.code x code maxLocals ret :: tables_1) room_1) (lw_P b xs) (fun _ _ _ _ _ => True) lw_Q := by
  refine MetFree.of_bodyS (code := code) (maxLocals := maxLocals) (ret := ret) (by decide) ?_ ?_
  · intro args s m h hn
    obtain ⟨meth, c, h1, h2, h3, h4, h5, h6, -, -⟩ := Cond.code_spec hn (atoms_spec (ws := Jvm.Cond.code x code maxLocals ret :: tables_1) h _ List.mem_cons_self)
    exact ⟨meth, c, h1, h2, h3, h4, h5, h6⟩
  · intro p e s m args below meth c s₁ B hml0 hP _
    obtain ⟨rfl, hx, hbd, hgv⟩ := hP
    obtain ⟨scr, harrAt, hlist, hof, hsmall⟩ := hx
    obtain ⟨hcb, hkn, -, -⟩ := State.arrayAt?_spec harrAt
    have hown : s.vm.findClass R_law = some m.cls := findClass_of_methodNamed B.named
    have hts0 : ∀ c ∈ (Jvm.Cond.code x code maxLocals ret :: tables_1), c.before #[Value.ref b] s = true := atoms_spec (ws := Jvm.Cond.code x code maxLocals ret :: tables_1) B.pre
    have hts : ∀ w ∈ lw_tbl, w.before #[Value.ref b] s = true := k2_hts_sels lw_privs (fun w hw => hts0 w (List.mem_cons_of_mem _ hw)) lw_privs_ok
    have hml : c.maxLocals = 3 := B.maxLocals_eq (hts0 _ List.mem_cons_self)
    have X₀ : Stand p l e room_1 s m #[Value.ref b] below meth c s₁ [] 0 0 := Stand.of_body B
    have hh0 : s₁.heap = s.heap := by rw [B.state]; rfl
    have hsz : scr.slots.size = xs.length := by rw [← Array.length_toList, hlist, List.length_map]
    have hval : ∀ j : Nat, j < xs.length → scr.slots[j]? = some (.int (xs.getD j 0)) := fun j hj => by
      rw [← Array.getElem?_toList, hlist]
      simp [hj]
    have hbl : b < s.heap.size := (Array.getElem?_eq_some_iff.mp hcb).1
    have hX : va_X b xs.length (fun j => xs.getD j 0) s s.heap := ⟨scr, hcb, hof, hkn, hsz, hval⟩
    have K : W p l e room_1 s m #[Value.ref b] below meth c s₁.heap [] 0 0 (lw_Z below #[Value.ref b] s) (entryFrame m ([Value.ref b] : List Value).toArray 3) := by
      rw [hh0]
      exact whole_start l hflags hbd ⟨B.exec, B.bytes, B.returns, hml, hown, hts, hX, hbl, B.notSynchronized, hgv⟩
    obtain ⟨t, a1, o, b1, b2, b3⟩ := K s₁ rfl X₀
    exact ⟨t, o, a1, b1, b2, b3⟩
theorem lw_pre_spec {args : Array Value} {s : State} (h : (Jvm.Cond.and given_1 narrow_1).before args s = true) (hr : rest_1_c.before args s = true) : ∃ (b : Addr) (xs : List Int32), lw_P b xs args s := by
  have hs := flat_of_before _ h
  have hq := flat_of_before _ hr
  have hc : (Cond.count 1).before args s = true := hs _ (by decide +kernel)
  have harr : (Cond.arrayOf (.arg 0) .int).before args s = true := hs _ (by decide +kernel)
  have hle : (Cond.le (.length (.arg 0)) (.int 260)).before args s = true := hs _ (by decide +kernel)
  have hlen : (Cond.isInt (.length (.arg 0))).before args s = true := hq _ (by decide +kernel)
  have hall : (Cond.all (.arg 0) (.isInt (.elem (.arg 0) (.index 0)))).before args s = true := hq _ (by decide +kernel)
  obtain ⟨b, xs, hb, hx⟩ := State.ints_of_pre rfl harr hlen hall
  have hsm : xs.length < 2 ^ 31 := hx.choose_spec.2.2.2
  have hev : (Term.length (.arg 0)).eval args s none [] s = some (.int xs.length.toInt32) := hx.length_eval hb
  have hv := Cond.le_ints hev (show (Term.int 260).eval args s none [] s = some (.int 260) from rfl)
  have hd : xs.length.toInt32 ≤ 260 := by
    simpa [Cond.before, Cond.holds, hv] using hle
  have hN : xs.length ≤ 260 := (Int32.ofNat_le_ofNat hsm (by decide)).mp (show Int32.ofNat xs.length ≤ Int32.ofNat 260 from hd)
  exact ⟨b, xs, Cond.one_arg hc (show args[0]? = some (.ref b) from hb), hx, hN, h⟩
theorem lw_comes (l : Launch) (hflags : l.flags = flags0) : Comes l x (Jvm.Cond.code x code maxLocals ret :: tables_1) room_1 (fun tb e args s => Calls_1 tb e args s ∧ rest_1 tb e args s ∧ Pre_1 tb e args s)
    (fun _ _ args s o t => lw_Q args s o t) := by
  intro p e ha hc hk s m args below hf hfit hheap happ hpre
  obtain ⟨b, xs, hP⟩ := lw_pre_spec hpre.2.2 hpre.2.1
  obtain ⟨k, o, h1, h2, h3, hQ⟩ := lw_walk l hflags b xs p e ha hc hk s m args below hf ((Spec.applies_iff_loose hf).mp happ).1 hP trivial
  exact ⟨k, o, h1, h2, h3, hQ⟩
theorem lw_frame {s t : State} {o : Outcome} {args : Array Value} (h : Framed s o t [] 600104 7301314) :
    Framed s o t (fieldLocs frame_1_writes args s ++ arrayLocs frame_1_arrays args s ++ staticLocs frame_1_statics s) 600104 7301314 := h
theorem lw_limb (L : Cond) (hL : ∀ (args : Array Value) (s t : State), L.after args s (.returned (some (.int 1))) t = true) :
    ArmFor flags0 classFile x code maxLocals ret World_1 tables_1 room_1 Calls_1 rest_1 Pre_1
      (fun tb e a s o t => postC L tb e a s o t ∧ Framed s o t (fieldLocs frame_1_writes a s ++ arrayLocs frame_1_arrays a s ++ staticLocs frame_1_statics s) 600104 7301314) := by
  intro l hflags _ _ p e ha hc hk s m args below hf hfit hheap happ hpre
  obtain ⟨k, o, h1, h2, h3, rfl, hF⟩ := lw_comes l hflags p e ha hc hk s m args below hf hfit hheap happ hpre
  exact ⟨k, _, h1, h2, h3, hL args s _, lw_frame hF⟩
theorem i_vc : Claimed_1_1 ∧ Claimed_1_2 := ⟨lw_limb limb_1_1 (fun args s t => by simp [limb_1_1, Cond.after, Cond.holds, Cond.value]), lw_limb limb_1_2 (fun args s t => Cond.after_iff.mpr (by
  first | (rw [show limb_1_2 = Cond.eq .result (.int 1) from rfl, Cond.eq_ints (x := 1) (y := 1) rfl rfl]; simp; done) | (simp [limb_1_2, Cond.value, Term.eval]; done)))⟩
