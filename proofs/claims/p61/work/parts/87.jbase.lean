/-! THE TEXT: what its members stand on -/
def tA (s0 : State) (q : Nat) : Prop := s0.heap.size ≤ q
def tCl : List vw_C := [(RJ4, TJ4, 4), (RJ0, TJ0, 4)]
/-- what is fixed while the text is made -/
def tFx (D : va_G) (cB : ClassId) (s0 : State) (a0 : Array Value) : Prop :=
  (∀ w ∈ lw_tbl, w.before a0 s0 = true) ∧ va_K D tCl [(cB, .byte)] s0 ∧ va_Z "java/lang/String" "COMPACT_STRINGS" "Z" (.int 1) (tA s0) s0 s0.heap
def tP (s0 : State) (av : List Value) (Wd : Heap → Prop) : Array Value → State → Prop := fun a U => a = av.toArray ∧ s0.WarmedH U.vm ∧ va_S (tA s0) s0.heap U.heap [] ∧ Wd U.heap
def tQ (s0 : State) (K : Option Value → Heap → Prop) : Array Value → State → Outcome → State → Prop := fun _ st oc t => ∃ v, oc = .returned v ∧ va_F (tA s0) st t ∧ K v t.heap
abbrev tMet (l : Launch) (y : MethodName) (code : ByteArray) (maxL : Nat) (ret : Option FieldType) (fr lo mc ms : Nat) (s0 : State) (av : List Value) (Wd : Heap → Prop) (K : Option Value → Heap → Prop) : Prop :=
  Met l y [Cond.code y code maxL ret] { frames := fr, locals := lo, cells := mc, slots := ms } (tP s0 av Wd) (tQ s0 K) mc ms (tA s0)
theorem tP_blind {s0 : State} {av : List Value} {Wd : Heap → Prop} : FrameBlind (tP s0 av Wd) := fun _ _ _ _ h => h
/-- the builder's cells -/
abbrev sbW (cB : ClassId) (sb av : Nat) (b0 n : Int32) (m : Nat) (f : Nat → Int32) : va_W := [(sb, .inr (0, [.ref av, .int 0, .int b0, .int n])), (av, .inl (cB, m, .inl f))]
def SBc (D : va_G) (cB : ClassId) (s0 : State) (sb av : Nat) (b0 n : Int32) (m : Nat) (f : Nat → Int32) (H : Heap) : Prop := va_P D tCl (sbW cB sb av b0 n m f) H ∧ va_D (tA s0) (sbW cB sb av b0 n m f)
section TCALL
variable {p : Program} {l : Launch} {e : Env} {R : Room} {s s0 : State} {m : MethodId} {args : Array Value} {below : List Frame} {meth : Method} {c : Code} {H : Heap} {locs : List Loc} {cells slots : Nat} {Q : State → Prop} {pc : Nat} {ls : Array Slot}
theorem t_use {K : Option Value → Heap → Prop} {a : Array Value} {mc ms : Nat} {rest st0 : List Value} (hr : va_Run p l e R s m args below meth c H locs cells slots mc ms (F0 m pc ls st0) rest (tQ s0 K a) (tA s0)) (hS : va_S (tA s0) s.heap H locs)
    (kk : ∀ (v : Option Value) (H1 : Heap) (locs1 : List Loc), K v H1 → va_S (tA s0) s.heap H1 locs1 → W p l e R s m args below meth c H1 locs1 (cells + mc) (slots + ms) Q (F0 m (pc + 3) ls (v.toList ++ rest))) :
    W p l e R s m args below meth c H locs cells slots Q (F0 m pc ls st0) := by
  intro T hT X
  obtain ⟨v9, st₀, t, T', L, h0, X', hL, e1, e2, ⟨v, hv, hF, hK⟩, st⟩ := hr T hT X
  cases hv
  have k3 : va_S (tA s0) s.heap T'.heap (locs ++ L) := ⟨Nat.le_trans hS.1 (by rw [e1, ← h0]; exact hF.1), fun q h1 h2 => by rw [e1, hF.2 q (by rw [h0]; exact Nat.lt_of_lt_of_le h1 hS.1) h2, h0]; exact hS.2.1 q h1 h2, fun q hq => (List.mem_append.mp hq).elim (hS.2.2 q) (hL q)⟩
  obtain ⟨t2, a1, b1⟩ := kk v9 T'.heap (locs ++ L) (by rw [e1]; exact hK) k3 T' rfl X'
  exact ⟨t2, st t2 a1, b1⟩
end TCALL
set_option maxRecDepth 100000 in
theorem jt_ws4 : ∀ w ∈ u_ws RJ4 TJ4 4, w ∈ TG := by decide +kernel
set_option maxRecDepth 100000 in
theorem jt_ws0 : ∀ w ∈ u_ws RJ0 TJ0 4, w ∈ TG := by decide +kernel
section TM1
variable {l : Launch} {D : va_G} {cB : ClassId} {s0 : State} {a0 : Array Value} {sb av : Nat} {b0 n : Int32} {m9 : Nat} {f : Nat → Int32}
/-- AbstractStringBuilder.isLatin1 -/
theorem jt_lat (hF : tFx D cB s0 a0) : tMet l yJ5_isLatin1_aae02 cJ5_isLatin1_aae02 1 (some .boolean) 0 0 0 0 s0 [.ref sb] (SBc D cB s0 sb av b0 n m9 f) (fun v H => v = some (.int 1) ∧ SBc D cB s0 sb av b0 n m9 f H) := by
  refine Met.ofW (by decide) rfl fun p e s m args below meth c s₁ B hml hP => ?_
  obtain ⟨rfl, hW, hS0, hw⟩ := hP
  have hx := B.exec
  have hb := B.bytes
  have hT := pj_at hF.1 hW #[Value.ref sb]
  have hK := va_K.moved hW.alike hF.2.1
  have hZ := (va_Z.moved hW.alike hF.2.2).kept hS0.2.1
  have hown := findClass_of_methodNamed B.named
  have hl := pls_entry (fun x => x) [.ref sb] (nL := 1) (Nat.le_of_ble_eq_true rfl)
  rw [lg_entry_eq]
  refine va_gets hx hb hZ va_S.rf hown (hT _ okT_f_AbstractStringBuilder_18) (fun _ h => h) (by decide +kernel : decode cJ5_isLatin1_aae02 0 = .ok (.getstatic 18, 3)) ?_
  refine lv_if_eq hx hb (by decide +kernel : decode cJ5_isLatin1_aae02 3 = .ok (.ifCond .eq 14, 3)) (tgt := 17) (by decide) (fun q => absurd q (by decide)) fun _ => ?_
  refine lv_aload_n hx hb (by decide +kernel : decode cJ5_isLatin1_aae02 6 = .ok (.aload_n 0, 1)) (i := 0) rfl (hl.2.2.2 0 (.ref sb) rfl) ?_
  refine va_get (D := D) (ci := 0) (v := .int 0) (C := RJ4) (T := TJ4) (N := 4) hx hb hT jt_ws4 hown hK hw.1 0 rfl rfl 1 (by decide) (hT _ okT_f_AbstractStringBuilder_22) (fun _ h => h) rfl (by decide +kernel : decode cJ5_isLatin1_aae02 7 = .ok (.getfield 22, 3)) ?_
  refine lv_if_ne hx hb (by decide +kernel : decode cJ5_isLatin1_aae02 10 = .ok (.ifCond .ne 7, 3)) (tgt := 17) (by decide) (fun q => absurd rfl q) fun _ => ?_
  refine lv_iconst hx hb (by decide +kernel : decode cJ5_isLatin1_aae02 13 = .ok (.iconst 1, 1)) (v := 1) rfl ?_
  refine lv_goto hx hb (by decide +kernel : decode cJ5_isLatin1_aae02 14 = .ok (.goto 4, 3)) (tgt := 18) (by decide) ?_
  exact W.zret hx hb B.returns rfl (fun t ht _ => ⟨_, rfl, va_S.rf.F ht, rfl, by rw [ht]; exact hw⟩) (fun q h => by cases h) (by decide +kernel : decode cJ5_isLatin1_aae02 18 = .ok (.ireturn, 1)) B.notSynchronized
end TM1
