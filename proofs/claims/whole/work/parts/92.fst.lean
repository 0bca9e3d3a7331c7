/-! FLOATS: steps -/
def gD (w : PW) (a k : Nat) : UInt64 := match w.2.2 a with
  | .inl (_, _, .inr (.inr (.inr (.inl f)))) => f k
  | _ => 0
def sD (w : PW) (a k : Nat) (x : UInt64) : PW := match w.2.2 a with
  | .inl (t, n, .inr (.inr (.inr (.inl f)))) => pup w a (.inl (t, n, .inr (.inr (.inr (.inl (vf_upd f k x))))))
  | _ => w
def kD (k : UInt64 → PW → Prop) : PO → PW → Prop := fun o w => match o with
  | .inl (some (.double x)) => k x w
  | _ => False
def kFl (k : UInt32 → PW → Prop) : PO → PW → Prop := fun o w => match o with
  | .inl (some (.float x)) => k x w
  | _ => False
theorem sh_dbl {w : PW} (hs : Sh w) {a t n : Nat} (ha : a < 182) (ht : tb a = (5, t, [some n])) : ∃ f, w.2.2 a = .inl (t, n, .inr (.inr (.inr (.inl f)))) := by
  have h := hs.2 a ha
  rw [ht] at h
  unfold shp at h
  split at h <;> simp only [Prod.mk.injEq] at h
  · exact absurd h.1 (by decide)
  · exact absurd h.1 (by decide)
  · exact absurd h.1 (by decide)
  · exact absurd h.1 (by decide)
  · rename_i t9 n9 f he
    obtain ⟨-, rfl, h3⟩ := h
    simp only [List.cons.injEq, Option.some.injEq, and_true] at h3
    subst h3
    exact ⟨f, he⟩
  · exact absurd h.1 (by decide)
theorem Sh_sD {w : PW} (hs : Sh w) {a k : Nat} {x : UInt64} : Sh (sD w a k x) := by
  unfold sD
  split
  · rename_i t n f he
    refine sh_pup hs ?_
    rw [he]
    rfl
  · exact hs
theorem sD_cell {w : PW} {a k c : Nat} {x : UInt64} (h : c ≠ a) : (sD w a k x).2.2 c = w.2.2 c := by
  unfold sD
  split
  · rw [pup_at, if_neg h]
  · rfl
theorem gD_sD {w : PW} (hs : Sh w) {a k t n : Nat} {x : UInt64} (ha : a < 182) (ht : tb a = (5, t, [some n])) : gD (sD w a k x) a k = x := by
  obtain ⟨f, hf⟩ := sh_dbl hs ha ht
  unfold sD
  rw [hf]
  unfold gD
  show (match (pup w a (.inl (t, n, .inr (.inr (.inr (.inl (vf_upd f k x))))))).2.2 a with | .inl (_, _, .inr (.inr (.inr (.inl f)))) => f k | _ => 0) = x
  rw [pup_at, if_pos rfl]
  show (vf_upd f k x) k = x
  unfold vf_upd
  rw [if_pos rfl]
section FST
variable {M pc np : Nat} {cc : ByteArray} {L : PL} {S rest : List Value} {w : PW} {Q : PO → PW → Prop}
theorem pf_fdiv {x y : UInt32} (h : FP.fdiv x y &&& 0x7fffffff ≤ 0x7f800000) : pf .fdiv L (.float y :: .float x :: S) = some (1, L, .float (FP.fdiv x y) :: S) := by
  show (if FP.fdiv x y &&& 0x7fffffff ≤ 0x7f800000 then some (1, L, .float (FP.fdiv x y) :: S) else none) = _
  rw [if_pos h]
theorem pf_ddiv {x y : UInt64} (h : FP.ddiv x y &&& 0x7fffffffffffffff ≤ 0x7ff0000000000000) : pf .ddiv L (.double y :: .double x :: S) = some (1, L, .double (FP.ddiv x y) :: S) := by
  show (if FP.ddiv x y &&& 0x7fffffffffffffff ≤ 0x7ff0000000000000 then some (1, L, .double (FP.ddiv x y) :: S) else none) = _
  rw [if_pos h]
theorem pf_f2d {x : UInt32} (h : FP.f2d x &&& 0x7fffffffffffffff ≤ 0x7ff0000000000000) : pf .f2d L (.float x :: S) = some (1, L, .double (FP.f2d x) :: S) := by
  show (if FP.f2d x &&& 0x7fffffffffffffff ≤ 0x7ff0000000000000 then some (1, L, .double (FP.f2d x) :: S) else none) = _
  rw [if_pos h]
theorem pf_dcmp (x y : UInt64) : pf (.dcmp .l) L (.double y :: .double x :: S) = some (1, L, iv (Op.cmpValue (FP.dcmp x y) .l).toInt :: S) := by rw [iv_toInt]; rfl
theorem w_rf {x : UInt32} (hB : mB M = cc) (hd : decode cc pc = .ok (.freturn, 1)) (hr : mR M = some .float) (h : Q (.inl (some (.float x))) w) : pX M pc L [.float x] w Q := by
  refine (pX_r hB hd rfl (v := some (.float x)) ?_ Q).mpr h
  unfold prt
  dsimp only
  rw [if_pos hr]
theorem w_rd {x : UInt64} (hB : mB M = cc) (hd : decode cc pc = .ok (.dreturn, 1)) (hr : mR M = some .double) (h : Q (.inl (some (.double x))) w) : pX M pc L [.double x] w Q := by
  refine (pX_r hB hd rfl (v := some (.double x)) ?_ Q).mpr h
  unfold prt
  dsimp only
  rw [if_pos hr]
theorem hK_D {k : UInt64 → PW → Prop} (h : ∀ x w', k x w' → pX M np L (.double x :: rest) w' Q) : ∀ o w', kD k o w' → pK M pc np L rest Q o w' := by
  intro o w' hk
  match o, hk with
  | .inl (some (.double x)), hk => exact h _ _ hk
theorem hK_Fl {k : UInt32 → PW → Prop} (h : ∀ x w', k x w' → pX M np L (.float x :: rest) w' Q) : ∀ o w', kFl k o w' → pK M pc np L rest Q o w' := by
  intro o w' hk
  match o, hk with
  | .inl (some (.float x)), hk => exact h _ _ hk
theorem w_dal {a n : Nat} {z : Int} (hB : mB M = cc) (hd : decode cc pc = .ok (.daload, 1)) (hn : np = pc + 1) (hs : Sh w) (ha : a < 182) (ht : tb a = (5, 5, [some n])) (hb : bd z) (hz : 0 ≤ z ∧ z < n) (h : pX M np L (.double (gD w a z.toNat) :: S) w Q) : pX M pc L (iv z :: .ref a :: S) w Q := by
  obtain ⟨f, hf⟩ := sh_dbl hs ha ht
  obtain ⟨h1, h2⟩ := iv_idx hb hz
  have e : gD w a z.toNat = f z.toNat := by unfold gD; rw [hf]
  rw [e, ← h2] at h
  refine (pX_l hB hd rfl (ln := 1) (w' := w) ?_ hn Q).mpr h
  unfold pld
  dsimp only
  unfold paD
  rw [hf]
  dsimp only
  rw [if_pos rfl]
  dsimp only
  rw [if_neg h1]
theorem w_das {a n : Nat} {z : Int} {v : UInt64} (hB : mB M = cc) (hd : decode cc pc = .ok (.dastore, 1)) (hn : np = pc + 1) (hs : Sh w) (ha : a < 182) (ht : tb a = (5, 5, [some n])) (hb : bd z) (hz : 0 ≤ z ∧ z < n) (h : pX M np L S (sD w a z.toNat v) Q) : pX M pc L (.double v :: iv z :: .ref a :: S) w Q := by
  obtain ⟨f, hf⟩ := sh_dbl hs ha ht
  obtain ⟨h1, h2⟩ := iv_idx hb hz
  have e : sD w a z.toNat v = pup w a (.inl (5, n, .inr (.inr (.inr (.inl (vf_upd f z.toNat v)))))) := by unfold sD; rw [hf]
  rw [e, ← h2] at h
  refine (pX_s hB hd rfl (ln := 1) (S' := S) ?_ hn Q).mpr h
  unfold psw
  dsimp only
  unfold paD
  rw [hf]
  dsimp only
  rw [if_pos rfl]
  dsimp only
  rw [if_neg h1]
end FST
