section PSB
variable {p : Program} {l : Launch} {e : Env} {R : Room} {s : State} {m : MethodId} {args : Array Value} {below : List Frame} {meth : Method} {c : Code} {H : Heap} {locs : List Loc} {cells slots : Nat} {Q : State → Prop}
variable {cc : ByteArray} {pc ln nL : Nat} {i : Instr} {ls : Array Slot} {L L' : PL} {S S' : List Value} {ad : Nat → Nat}
theorem pb_t {α : Sort _} {P : Prop} [Decidable P] {tk : Bool} (h : decide P = tk) (q : P) {F : α → Prop} {a b : α} (k : F (if tk = true then a else b)) : F a := by
  rw [← h, decide_eq_true q, if_pos rfl] at k; exact k
theorem pb_f {α : Sort _} {P : Prop} [Decidable P] {tk : Bool} (h : decide P = tk) (q : ¬ P) {F : α → Prop} {a b : α} (k : F (if tk = true then a else b)) : F b := by
  rw [← h, decide_eq_false q, if_neg (by decide)] at k; exact k
set_option maxHeartbeats 4000000 in
theorem pb_snd {tk : Bool} {off : Int} {l0 : Nat} (hx : p.tables.exec = Jvm.exec) (hb : c.code = cc) (hd : decode cc pc = .ok (i, ln)) (hf : pb i S = some (tk, off, l0, S')) (hl : l0 = ln ∨ l0 = 0) {tgt : Nat} (ht : (pc : Int) + off = (tgt : Int))
    (k : W p l e R s m args below meth c H locs cells slots Q (F0 m (if tk = true then tgt else pc + ln) ls (S'.map (mV ad)))) :
    W p l e R s m args below meth c H locs cells slots Q (F0 m pc ls (S.map (mV ad))) := by
  unfold pb at hf
  split at hf
  · cases hf
    have h3 : ln = 3 := by omega
    subst h3
    exact lv_goto hx hb hd ht k
  · rename_i cnd off'
    split at hf
    · rename_i x S9
      simp only [Option.some.injEq, Prod.mk.injEq] at hf
      obtain ⟨h1, rfl, rfl, rfl⟩ := hf
      have h3 : ln = 3 := by omega
      subst h3
      cases cnd
      · exact lv_if_eq hx hb hd ht (fun q => pb_t (F := fun z => W p l e R s m args below meth c H locs cells slots Q (F0 m z ls (List.map (mV ad) S9))) h1 q k) (fun q => pb_f (F := fun z => W p l e R s m args below meth c H locs cells slots Q (F0 m z ls (List.map (mV ad) S9))) h1 q k)
      · exact lv_if_ne hx hb hd ht (fun q => pb_t (F := fun z => W p l e R s m args below meth c H locs cells slots Q (F0 m z ls (List.map (mV ad) S9))) h1 q k) (fun q => pb_f (F := fun z => W p l e R s m args below meth c H locs cells slots Q (F0 m z ls (List.map (mV ad) S9))) h1 (fun z => z q) k)
      · exact lv_if_lt hx hb hd ht (fun q => pb_t (F := fun z => W p l e R s m args below meth c H locs cells slots Q (F0 m z ls (List.map (mV ad) S9))) h1 q k) (fun q => pb_f (F := fun z => W p l e R s m args below meth c H locs cells slots Q (F0 m z ls (List.map (mV ad) S9))) h1 q k)
      · exact lv_if_ge hx hb hd ht (fun q => pb_t (F := fun z => W p l e R s m args below meth c H locs cells slots Q (F0 m z ls (List.map (mV ad) S9))) h1 q k) (fun q => pb_f (F := fun z => W p l e R s m args below meth c H locs cells slots Q (F0 m z ls (List.map (mV ad) S9))) h1 q k)
      · exact lv_if_gt hx hb hd ht (fun q => pb_t (F := fun z => W p l e R s m args below meth c H locs cells slots Q (F0 m z ls (List.map (mV ad) S9))) h1 q k) (fun q => pb_f (F := fun z => W p l e R s m args below meth c H locs cells slots Q (F0 m z ls (List.map (mV ad) S9))) h1 q k)
      · exact lv_if_le hx hb hd ht (fun q => pb_t (F := fun z => W p l e R s m args below meth c H locs cells slots Q (F0 m z ls (List.map (mV ad) S9))) h1 q k) (fun q => pb_f (F := fun z => W p l e R s m args below meth c H locs cells slots Q (F0 m z ls (List.map (mV ad) S9))) h1 q k)
    · cases hf
  · rename_i cnd off'
    split at hf
    · rename_i y x S9
      simp only [Option.some.injEq, Prod.mk.injEq] at hf
      obtain ⟨h1, rfl, rfl, rfl⟩ := hf
      have h3 : ln = 3 := by omega
      subst h3
      cases cnd
      · exact lv_icmp_eq hx hb hd ht (fun q => pb_t (F := fun z => W p l e R s m args below meth c H locs cells slots Q (F0 m z ls (List.map (mV ad) S9))) h1 q k) (fun q => pb_f (F := fun z => W p l e R s m args below meth c H locs cells slots Q (F0 m z ls (List.map (mV ad) S9))) h1 q k)
      · exact lv_icmp_ne hx hb hd ht (fun q => pb_t (F := fun z => W p l e R s m args below meth c H locs cells slots Q (F0 m z ls (List.map (mV ad) S9))) h1 q k) (fun q => pb_f (F := fun z => W p l e R s m args below meth c H locs cells slots Q (F0 m z ls (List.map (mV ad) S9))) h1 (fun z => z q) k)
      · exact lv_icmp_lt hx hb hd ht (fun q => pb_t (F := fun z => W p l e R s m args below meth c H locs cells slots Q (F0 m z ls (List.map (mV ad) S9))) h1 q k) (fun q => pb_f (F := fun z => W p l e R s m args below meth c H locs cells slots Q (F0 m z ls (List.map (mV ad) S9))) h1 q k)
      · exact lv_icmp_ge hx hb hd ht (fun q => pb_t (F := fun z => W p l e R s m args below meth c H locs cells slots Q (F0 m z ls (List.map (mV ad) S9))) h1 q k) (fun q => pb_f (F := fun z => W p l e R s m args below meth c H locs cells slots Q (F0 m z ls (List.map (mV ad) S9))) h1 q k)
      · exact lv_icmp_gt hx hb hd ht (fun q => pb_t (F := fun z => W p l e R s m args below meth c H locs cells slots Q (F0 m z ls (List.map (mV ad) S9))) h1 q k) (fun q => pb_f (F := fun z => W p l e R s m args below meth c H locs cells slots Q (F0 m z ls (List.map (mV ad) S9))) h1 q k)
      · exact lv_icmp_le hx hb hd ht (fun q => pb_t (F := fun z => W p l e R s m args below meth c H locs cells slots Q (F0 m z ls (List.map (mV ad) S9))) h1 q k) (fun q => pb_f (F := fun z => W p l e R s m args below meth c H locs cells slots Q (F0 m z ls (List.map (mV ad) S9))) h1 q k)
    · cases hf
  · split at hf
    · split at hf
      · rename_i hc
        cases hf
        rw [if_pos rfl] at k
        exact lv_tableOut hx hb hd hc ht k
      · rename_i hc
        split at hf
        · rename_i off9 ho
          cases hf
          rw [if_pos rfl] at k
          exact lv_tableIn hx hb hd (fun q => hc (Or.inl q)) (fun q => hc (Or.inr q)) ho ht k
        · cases hf
    · cases hf
  · split at hf
    · split at hf
      · rename_i hc
        cases hf
        rw [if_pos rfl] at k
        exact lv_lookup hx hb hd hc rfl ht k
      · cases hf
    · cases hf
  · cases hf
end PSB
