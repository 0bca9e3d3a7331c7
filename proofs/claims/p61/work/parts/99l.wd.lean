/-! THE START: another text, another heap -/
/-- the state with another heap -/
def sH (s : State) (H : Heap) : State := { s with heap := H }
section SHS
variable {A9 : Nat → Prop} {s : State} {H9 : Heap} {a : Array Value}
def hpf (c : Cond) : Bool := c.onTables || (match c with
  | .stringRef .. => true
  | .laysStatic .. => true
  | .arrayClass .. => true
  | .arrayOver .. => true
  | _ => false)
set_option maxRecDepth 100000 in
theorem hpf_all : lw_tbl.all hpf = true := by decide +kernel
theorem ls_at {o n d : String} (hk : ∀ q : Nat, q < s.heap.size → H9[q]? = s.heap[q]?) (hb : (Cond.laysStatic o n d).before a s = true) : (Cond.laysStatic o n d).before a (sH s H9) = true := by
  obtain ⟨c, k, i, f, q, cell, h1, h2, h3, h4, h5, -⟩ := Cond.laysStatic_spec hb
  have e5 : (sH s H9).heap[q]? = some cell := (hk q (Array.getElem?_eq_some_iff.mp h5).1).trans h5
  have e1 : (sH s H9).vm.findClass o = s.vm.findClass o := rfl
  have e2 : (sH s H9).fieldFound? o n d = s.fieldFound? o n d := rfl
  simp only [Cond.before, Cond.holds, Cond.value] at hb ⊢
  rw [e1, e2]
  simp only [h1, h2, h4, Option.bind_some, h5, e5] at hb ⊢
  exact hb
theorem hpf_at {c : Cond} (h : hpf c = true) (hk : ∀ q : Nat, q < s.heap.size → H9[q]? = s.heap[q]?) (hb : c.before a s = true) : c.before a (sH s H9) = true := by
  by_cases q : c.onTables = true
  · exact va_tabs q (rfl : s.vm = (sH s H9).vm) hb
  · cases c
    case stringRef => exact hb
    case laysStatic => exact ls_at hk hb
    case arrayClass => exact hb
    case arrayOver => exact hb
    all_goals first
      | (exact absurd rfl q)
      | (exfalso; simp [hpf, Cond.onTables] at h)
theorem sH_tbl (hk : ∀ q : Nat, q < s.heap.size → H9[q]? = s.heap[q]?) (hts : ∀ w ∈ lw_tbl, w.before a s = true) : ∀ w ∈ lw_tbl, w.before a (sH s H9) = true := fun w hw => hpf_at (List.all_eq_true.mp hpf_all w hw) hk (hts w hw)
theorem sH_alike : s.vm.Alike (sH s H9).vm := (State.WarmedH.refl s).alike
theorem sH_warm {vm : Vm} (h : s.WarmedH vm) : (sH s H9).WarmedH vm := h
end SHS
/-! references within the class's cells -/
def rfOk (o : Option Nat) : Bool := match o with
  | some r => decide (r < 169)
  | none => true
theorem tb_rf : ∀ a, a < 169 → ((tb a).1 = 0 ∨ (tb a).1 = 6) → (tb a).2.2.all rfOk = true := by decide +kernel
theorem arrV_cg {c : ClassId} {n : Nat} {f g : Nat → Value} (h : ∀ j, j < n → f j = g j) : arrV c n f = arrV c n g := by
  unfold arrV
  rw [show (fun j : Fin n => f j.val) = fun j : Fin n => g j.val from funext fun j => h j.1 j.2]
section PADS
variable {z : Nat} {sa1 sa2 : Nat → Nat} {b : Nat} {cy : Nat → ClassId} {D : va_G} {cl : List vw_C} {H : Heap}
theorem pad_eq {r : Nat} (h : r < 169) : pad z sa1 b r = pad z sa2 b r := by
  have e : pSB = 1000000 := rfl
  rw [pad_lt (by omega), pad_lt (by omega)]
theorem at_pad {e : va_E} {a q : Nat} (ha : a < 169) (hs : shp e = tb a) (h : va_at D cl (q, mE (pad z sa1 b) cy e) H) : va_at D cl (q, mE (pad z sa2 b) cy e) H := by
  match e, hs, h with
  | .inr (c, fs), hs, h =>
    have e1 : fs.map (mV (pad z sa1 b)) = fs.map (mV (pad z sa2 b)) := List.map_congr_left fun x hx => by
      cases x with
      | ref r =>
        have h1 : some r ∈ (tb a).2.2 := by
          rw [← hs]
          exact List.mem_map.mpr ⟨.ref r, hx, rfl⟩
        have h2 : (tb a).1 = 0 := by rw [← hs]; rfl
        have h3 := of_decide_eq_true (List.all_eq_true.mp (tb_rf a ha (Or.inl h2)) _ h1)
        exact congrArg Value.ref (pad_eq h3)
      | _ => rfl
    have h : va_at D cl (q, .inr (c, fs.map (mV (pad z sa1 b)))) H := h
    rw [e1] at h
    exact h
  | .inl (t, n, .inr (.inr (.inr (.inr f)))), hs, h =>
    have h : H[q]? = some (arrV (cy t) n (fun j => va_rf ((f j).map (pad z sa1 b)))) := h
    show H[q]? = some (arrV (cy t) n (fun j => va_rf ((f j).map (pad z sa2 b))))
    rw [h, arrV_cg (g := fun j => va_rf ((f j).map (pad z sa2 b))) fun j hj => ?_]
    cases hf : f j with
    | none => rfl
    | some r =>
      have h1 : some r ∈ (tb a).2.2 := by
        rw [← hs, ← hf]
        exact List.mem_map.mpr ⟨j, List.mem_range.mpr hj, rfl⟩
      have h2 : (tb a).1 = 6 := by rw [← hs]; rfl
      have h3 := of_decide_eq_true (List.all_eq_true.mp (tb_rf a ha (Or.inr h2)) _ h1)
      exact congrArg Value.ref (pad_eq h3)
  | .inl (t, n, .inl f), hs, h => exact h
  | .inl (t, n, .inr (.inl f)), hs, h => exact h
  | .inl (t, n, .inr (.inr (.inl f))), hs, h => exact h
  | .inl (t, n, .inr (.inr (.inr (.inl f)))), hs, h => exact h
/-- the world that the constructor leaves, with another text -/
theorem pri_tx {v : PW} {L : Nat} {xs : Nat → Int32} {tx1 tx2 : List Nat} (h8 : P8 v) (h : pRi D (pad z sa1 b) cy L xs tx1 (TW P1 (G1 L xs tx1) 0 v) H) : pRi D (pad z sa2 b) cy L xs tx2 (TW P1 (G1 L xs tx2) 0 v) H := by
  have zc : ∀ (t : List Nat) (c : Nat), c < 169 → (TW P1 (G1 L xs t) 0 v).2.2 c = v.2.2 c := fun t c hc => tw_c (decide_eq_false (by omega))
  have zp : ∀ (t : List Nat) (c : Nat), 169 ≤ c → (TW P1 (G1 L xs t) 0 v).2.2 c = G1 L xs t c := fun t c hc => if_pos (decide_eq_true hc)
  have z1 : ∀ t : List Nat, (TW P1 (G1 L xs t) 0 v).1 = 169 := fun t => h8.1
  refine ⟨fun k q hq => ?_, ?_, fun a ha n1 n2 => ?_, ⟨?_, ?_⟩, fun a t y he => ?_⟩
  · have hk : k < (TW P1 (G1 L xs tx2) 0 v).1 := by
      have := (List.getElem?_eq_some_iff.mp hq).1
      rwa [mW_len] at this
    have hk9 : k < 169 := by rw [z1] at hk; exact hk
    rw [mW_at hk] at hq
    cases hq
    have g := h.1 k _ (mW_at (by rw [z1]; exact hk9))
    rw [zc tx1 k hk9, pad_eq (sa2 := sa2) hk9] at g
    rw [zc tx2 k hk9]
    exact at_pad hk9 (h8.2.2.1 k hk9) g
  · rw [z1]
    exact Nat.le_refl _
  · rw [z1] at ha
    rw [zp tx2 a ha]
    unfold G1
    rw [if_neg n1, if_neg n2]
    rfl
  · rw [zp tx2 _ (by decide)]
    exact if_pos rfl
  · rw [zp tx2 _ (by decide)]
    unfold G1
    rw [if_neg (by decide), if_pos rfl]
  · by_cases ha : a < 169
    · rw [zc tx2 a ha] at he
      exact h.2.2.2.2 a t y (by rw [zc tx1 a ha]; exact he)
    · rw [zp tx2 a (by omega)] at he
      unfold G1 at he
      by_cases n1 : a = pSC
      · exact Or.inr n1
      · rw [if_neg n1] at he
        by_cases n2 : a = pTX
        · rw [if_pos n2] at he
          cases he
        · rw [if_neg n2] at he
          cases he
end PADS
/-! a new string is a string -/
theorem sb_of : ∀ c, c < 128 → sb_b c = Int32.ofNat c := by decide +kernel
theorem pst_new {t : List Nat} {Dt : va_G} {cB : ClassId} {U : State} {H : Heap} {A : Nat → Prop} {a : Array Value} {st q : Nat} {g : Nat → Int32} (hK : va_K Dt tCl [(cB, .byte)] U) (hT : ∀ w ∈ TG, w.before a U = true) (hP : va_P Dt tCl [(st, .inr (1, [.ref q, .int 0, .int 0, .int 0])), (q, .inl (cB, t.length, .inl g))] H) (hg : ∀ j, j < t.length → g j = Int32.ofNat (t.getD j 0)) (h1 : ¬ A st) (h2 : ¬ A q) : pSt t st q A U H := by
  obtain ⟨r, hr, cell, c1, c2, c3, c4⟩ := hP 0 _ rfl
  cases hr
  obtain ⟨k1, k2⟩ := hK.1 1 _ rfl
  have hq : H[q]? = some (arrV cB t.length (fun j => .int (g j))) := hP 1 _ rfl
  have hf : ∀ k, k < 2 → va_OF "java/lang/String" (TJ0 k).2.1 (TJ0 k).2.2.1 (vp_V [.ref q, .int 0, .int 0, .int 0] k) st A U H := by
    intro k hk
    have hk4 : k < 4 := by omega
    have hw : Cond.laysFinal "java/lang/String" "java/lang/String" (TJ0 k).2.1 (TJ0 k).2.2.1 ∈ TG := by
      rcases (show k = 0 ∨ k = 1 by omega) with rfl | rfl
      · exact jt_ws0 _ (u_in_lay (C := RJ0) (T := TJ0) (N := 4) (k := 0) (by decide))
      · exact jt_ws0 _ (u_in_lay (C := RJ0) (T := TJ0) (N := 4) (k := 1) (by decide))
    obtain ⟨c, kc, c', kk, i, f, -, -, e3, e4, -⟩ := Cond.laysFinal_spec (hT _ hw)
    obtain ⟨cf, kf, fi, fd, g1, g2⟩ := k1 k hk4
    have e0 : (TJ0 k).1 = "java/lang/String" := by
      rcases (show k = 0 ∨ k = 1 by omega) with rfl | rfl <;> rfl
    rw [e0] at g1
    cases e3.symm.trans g1
    refine ⟨_, _, _, _, cell, e3, e4, c1, (by rw [c3]; intro y; cases y), ?_, h1⟩
    rw [g2]
    exact c4 k hk4
  refine ⟨fun i hi => ?_, fun i j hi hj _ => by omega⟩
  have hi : i = 0 := by omega
  subst hi
  refine ⟨⟨cell, c1, by rw [c3]; rfl, by rw [c2]; exact k2.1, h1⟩, hf 1 (by decide), hf 0 (by decide), ⟨_, hq, (hK.2 0 _ rfl).1 _ _, (by intro y; cases y), ?_, ?_, fun j hj => ?_, h2⟩⟩
  · rw [arrV_size]
    exact Nat.le_refl _
  · rw [arrV_size]
    rfl
  · have hj : j < t.length := hj
    rw [arrV_read _ _ hj, hg j hj]
    show _ = some (Value.int ((t.map (fun c => Int32.ofNat c)).getD j 0))
    rw [getD_map (fun c => Int32.ofNat c) t hj 0 0]
