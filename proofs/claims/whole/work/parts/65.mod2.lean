/-! THE MODEL: pins -/
theorem sm_cut {f : Nat → Int} {a b : Nat} (h : a ≤ b) (hz : ∀ i, a ≤ i → i < b → f i = 0) : sm f b = sm f a := by
  induction b with
  | zero => rw [show a = 0 from by omega]
  | succ b ih =>
    by_cases q : a = b + 1
    · rw [q]
    · rw [sm_s, ih (by omega) (fun i h1 h2 => hz i h1 (by omega)), hz b (by omega) (by omega), Int.add_zero]
theorem sPins_rows {m : Row} (hR : RowOK m) {u : Nat} (hu : (u : Int) < m 1) : sPins m u = sm (fun s => (cnt (tI (m (251 + 64 * u + s))) 12 : Int)) (m 0).toNat := by
  have h4 := hR.t
  have h0 := hR.s
  have e1 : sm (fun s => (cnt (tI (m (251 + 64 * u + s))) 12 : Int)) (m 0).toNat = sm (fun s => sm (fun t => if rPin m u s t = true then 1 else 0) 12) (m 0).toNat := sm_congr (fun s _ => cnt_sm _ _)
  rw [e1, sm_swap (fun s t => if rPin m u s t = true then 1 else 0)]
  have e2 : sm (fun t => sm (fun s => if rPin m u s t = true then (1 : Int) else 0) (m 0).toNat) 12 = sm (fun t => sm (fun s => if rPin m u s t = true then (1 : Int) else 0) (m 0).toNat) (m 4).toNat := by
    refine sm_cut (by omega) (fun t h1 h2 => sm_zero (fun s hs => ?_))
    have := (hR.P hu (show (s : Int) < m 0 by omega)).2 t (by omega)
    by_cases q : rPin m u s t = true
    · have := this q; omega
    · rw [if_neg q]
  rw [e2]
  unfold sPins
  refine sm_congr (fun t _ => ?_)
  rw [← cnt_sm]
  rfl
theorem l247_4 {w : PW} {Q : PO → PW → Prop} {u : Nat} {m : Row} (hs : Sh w) (hM : MR w m) (hu : (u : Int) < m 1) (h : Q (.inl (some (iv (sPins m u)))) w) : ∀ k i : Nat, i + k = (m 0).toNat → pX 247 4 [some (.ref 169), some (iv (u : Nat)), some (iv (sm (fun s => (cnt (tI (m (251 + 64 * u + s))) 12 : Int)) i)), some (iv (i : Nat))] [] w Q := by
  have h0 := hM.ok.s
  have h1 := hM.ok.u
  have hbd : ∀ z, z ≤ 64 → 0 ≤ sm (fun s => (cnt (tI (m (251 + 64 * u + s))) 12 : Int)) z ∧ sm (fun s => (cnt (tI (m (251 + 64 * u + s))) 12 : Int)) z ≤ 768 := fun z hz => by
    have := sm_bd (f := fun s => (cnt (tI (m (251 + 64 * u + s))) 12 : Int)) (n := z) (c := 12) (fun s _ => by have := cnt_le (tI (m (251 + 64 * u + s))) 12; exact ⟨by omega, by omega⟩)
    omega
  intro k
  induction k with
  | zero =>
    intro i hi 
    have hx := hbd i (by omega)
    refine v247_4 hs (bdk (by omega)) ⟨by omega, by omega⟩ (bdk (by omega)) ?_
    rw [hM.g rfl]
    refine ⟨fun _ => ?_, fun q => by omega⟩
    rw [sPins_rows hM.ok hu, show (m 0).toNat = i from by omega] at h
    exact h
  | succ k ih =>
    intro i hi 
    have hx := hbd i (by omega)
    have e := hM.i (x := (251 + 64 * (u : Nat)) + (i : Nat)) (n := 251 + 64 * u + i) rfl (by omega)
    refine v247_4 hs (bdk (by omega)) ⟨by omega, by omega⟩ (bdk (by omega)) ?_
    rw [hM.g rfl, e]
    exact ⟨fun q => by omega, fun _ => ⟨⟨by omega, by omega⟩, ih (i + 1) (by omega)⟩⟩
theorem c247 {w : PW} {Q : PO → PW → Prop} {u : Nat} {m : Row} (hs : Sh w) (hM : MR w m) (hu : (u : Int) < m 1) (h : Q (.inl (some (iv (sPins m u)))) w) : pC 247 [.ref 169, iv (u : Nat)] w Q := by
  have h1 := hM.ok.u
  exact e247 hs (bdk (by omega)) (l247_4 hs hM hu h _ 0 (Nat.zero_add _))
theorem l248_4 {w : PW} {Q : PO → PW → Prop} {m : Row} (hs : Sh w) (hM : MR w m) (h : Q (.inl (some (iv (sAll m)))) w) : ∀ k i : Nat, i + k = (m 1).toNat → pX 248 4 [some (.ref 169), some (iv (sm (sPins m) i)), some (iv (i : Nat))] [] w Q := by
  have h1 := hM.ok.u
  have hbd : ∀ z, z ≤ 3 → 0 ≤ sm (sPins m) z ∧ sm (sPins m) z ≤ 2304 := fun z hz => by
    have := sm_bd (f := sPins m) (n := z) (c := 768) (fun s _ => sPins_bd hM.ok s)
    omega
  intro k
  induction k with
  | zero =>
    intro i hi 
    have hx := hbd i (by omega)
    refine v248_4 hs ⟨by omega, by omega⟩ (bdk (by omega)) ?_
    rw [hM.g rfl]
    refine ⟨fun _ => ?_, fun q => by omega⟩
    unfold sAll at h
    rw [show (m 1).toNat = i from by omega] at h
    exact h
  | succ k ih =>
    intro i hi 
    have hx := hbd i (by omega)
    have hp := sPins_bd hM.ok i
    refine v248_4 hs ⟨by omega, by omega⟩ (bdk (by omega)) ?_
    rw [hM.g rfl]
    exact ⟨fun q => by omega, fun _ => c247 hs hM (by omega) (kI_iv ⟨by omega, by omega⟩ ⟨hs, ih (i + 1) (by omega)⟩)⟩
theorem c248 {w : PW} {Q : PO → PW → Prop} {m : Row} (hs : Sh w) (hM : MR w m) (h : Q (.inl (some (iv (sAll m)))) w) : pC 248 [.ref 169] w Q :=
  e248 hs (l248_4 hs hM h _ 0 (Nat.zero_add _))
