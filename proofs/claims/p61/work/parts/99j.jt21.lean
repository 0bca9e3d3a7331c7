/-! THE TEXT: the law's text, walked -/
theorem nI_inc (k : Nat) : nI k + Int32.ofInt 1 = nI (k + 1) := by
  rw [show Int32.ofInt 1 = nI 1 from by decide +kernel]
  exact nI_add k 1
section TXW
variable {p : Program} {l : Launch} {e : Env} {R : Room} {s : State} {m : MethodId} {args : Array Value} {below : List Frame} {meth : Method} {c : Code} {Q : State → Prop}
variable {D : va_G} {cB : ClassId} {s0 : State} {a0 : Array Value} {sb dO dT b sn : Nat} {sf : Nat → Int32} {sL aL : Nat → Nat}
set_option maxHeartbeats 1000000 in
theorem lt_L1 (hB : tBs p R s s0 m c) (hC : tCx D cB s0 a0 dO dT b sn sf sL aL) {pre : List Nat} (hp : pre.length ≤ 300) (kk : ∀ (H : Heap) (locs : List Loc) (ls : Array Slot), lv_has ls 6 [(5, .int (nI (tT sn sf))), (4, .ref sb), (3, .int (nI (tT sn sf))), (2, .int (nI (tU sn sf))), (1, .int (nI (tS sn sf))), (0, .ref b)] → SBy D cB s0 sb (pre ++ encs (many (te1 sn sf) (tT sn sf))) H → va_S (tA s0) s.heap H locs → W p l e R s m args below meth c H locs (25) (37050) Q (F0 m 143 ls [])) :
    ∀ (n k : Nat), n + k = tT sn sf → ∀ (H : Heap) (locs : List Loc) (ls : Array Slot), lv_has ls 6 [(5, .int (nI k)), (4, .ref sb), (3, .int (nI (tT sn sf))), (2, .int (nI (tU sn sf))), (1, .int (nI (tS sn sf))), (0, .ref b)] → SBy D cB s0 sb (pre ++ encs (many (te1 sn sf) k)) H → va_S (tA s0) s.heap H locs → W p l e R s m args below meth c H locs (10 + 3 * k) (13020 + 4806 * k) Q (F0 m 91 ls []) := by
  have hS8 : 8 ≤ tS sn sf ∧ tS sn sf ≤ 16 := by unfold tS; omega
  have hU3 : 1 ≤ tU sn sf ∧ tU sn sf ≤ 3 := by unfold tU; omega
  have hT5 : 1 ≤ tT sn sf ∧ tT sn sf ≤ 5 := by unfold tT; omega
  obtain ⟨hx, hb, hml, hown, hW, hS0, h1, h2, h3⟩ := id hB
  have hlim : tT sn sf ≤ 5 := by exact hT5.2
  intro n
  induction n with
  | zero =>
    intro k hk H locs ls hl hw hS
    have hk : k = tT sn sf := by omega
    refine lv_iload hx hb (by decide +kernel : decode cL_text 91 = .ok (.iload 5, 2)) (lv_at hl 0 rfl) ?_
    refine lv_iload_n hx hb (by decide +kernel : decode cL_text 93 = .ok (.iload_n 3, 1)) rfl (lv_at hl 2 rfl) ?_
    refine lv_icmp_ge hx hb (by decide +kernel : decode cL_text 94 = .ok (.if_icmp .ge 49, 3)) (tgt := 143) (by decide) (fun _ => ?_) fun q => absurd (show nI (tT sn sf) ≤ nI k from nI_le (by omega) (by omega)) q
    refine W.widen (k := 25) (n := 37050) (by omega) (by omega) ?_
    rw [hk] at hw hl
    exact kk H locs ls hl hw hS
  | succ n ih =>
    intro k hk H locs ls hl hw hS
    have hk5 : k < 5 := by omega
    have h9 : (pre ++ encs (many (te1 sn sf) k)).length ≤ 300 + 136 := by
      rw [List.length_append]
      have := (asc_many (asc_te sn sf) k).2
      omega
    refine lv_iload hx hb (by decide +kernel : decode cL_text 91 = .ok (.iload 5, 2)) (lv_at hl 0 rfl) ?_
    refine lv_iload_n hx hb (by decide +kernel : decode cL_text 93 = .ok (.iload_n 3, 1)) rfl (lv_at hl 2 rfl) ?_
    refine lv_icmp_ge hx hb (by decide +kernel : decode cL_text 94 = .ok (.if_icmp .ge 49, 3)) (tgt := 143) (by decide) (fun q => absurd q (show ¬ nI (tT sn sf) ≤ nI k from nI_ge (by omega) (by omega))) fun _ => ?_
    refine lv_aload hx hb (by decide +kernel : decode cL_text 97 = .ok (.aload 4, 2)) (lv_at hl 1 rfl) ?_
    refine va_ldcS hx hb hown (vk_R.warm hW (hC.2.2.2 2 (by decide)).1) (by decide +kernel : decode cL_text 99 = .ok (.ldc 65, 2)) ?_
    refine lt_S hB hC (i := 2) (by decide) hw h9 (by decide) hS hl.1 (by exact Nat.le_of_ble_eq_true rfl) (by omega) (by omega) (by decide +kernel : decode cL_text 101 = .ok (.invokevirtual 62, 3)) (fun H locs hw h9 hS => ?_)
    refine lv_aload_n hx hb (by decide +kernel : decode cL_text 104 = .ok (.aload_n 0, 1)) rfl (lv_at hl 5 rfl) ?_
    refine lv_iconst hx hb (by decide +kernel : decode cL_text 105 = .ok (.iconst 5, 1)) (v := nI 5) rfl ?_
    refine lv_iload hx hb (by decide +kernel : decode cL_text 106 = .ok (.iload 5, 2)) (lv_at hl 0 rfl) ?_
    refine lt_add hx hb (by decide +kernel : decode cL_text 108 = .ok (.iadd, 1)) ?_
    refine lt_cell hB hC (by omega) (Wd := SBy D cB s0 sb _) hw hS hl.1 (by exact Nat.le_of_ble_eq_true rfl) (by omega) (by omega) (by decide +kernel : decode cL_text 109 = .ok (.invokestatic 41, 3)) (fun H locs hw hS => ?_)
    refine lv_iconst hx hb (by decide +kernel : decode cL_text 112 = .ok (.iconst 4, 1)) (v := nI 4) rfl ?_
    refine lt_rem hx hb ⟨Nat.lt_trans (cv_lt _ _ _) (by decide), by omega, by omega⟩ (by decide +kernel : decode cL_text 113 = .ok (.irem, 1)) ?_
    refine lt_nm hB hC (Nat.mod_lt _ (by decide)) (Wd := SBy D cB s0 sb _) hw hS hl.1 (by exact Nat.le_of_ble_eq_true rfl) (by omega) (by omega) (by decide +kernel : decode cL_text 114 = .ok (.invokestatic 67, 3)) (fun H locs hw hS => ?_)
    refine lt_S hB hC (by omega) hw h9 (by decide) hS hl.1 (by exact Nat.le_of_ble_eq_true rfl) (by omega) (by omega) (by decide +kernel : decode cL_text 117 = .ok (.invokevirtual 62, 3)) (fun H locs hw h9 hS => ?_)
    refine lv_iconst hx hb (by decide +kernel : decode cL_text 120 = .ok (.iconst 1, 1)) (v := nI 1) rfl ?_
    refine lv_aload_n hx hb (by decide +kernel : decode cL_text 121 = .ok (.aload_n 0, 1)) rfl (lv_at hl 5 rfl) ?_
    refine lv_bipush (v := nI 10) hx hb (by decide +kernel : decode cL_text 122 = .ok (.bipush 10, 2)) (by decide) ?_
    refine lv_iload hx hb (by decide +kernel : decode cL_text 124 = .ok (.iload 5, 2)) (lv_at hl 0 rfl) ?_
    refine lt_add hx hb (by decide +kernel : decode cL_text 126 = .ok (.iadd, 1)) ?_
    refine lt_cell hB hC (by omega) (Wd := SBy D cB s0 sb _) hw hS hl.1 (by exact Nat.le_of_ble_eq_true rfl) (by omega) (by omega) (by decide +kernel : decode cL_text 127 = .ok (.invokestatic 41, 3)) (fun H locs hw hS => ?_)
    refine lv_iconst hx hb (by decide +kernel : decode cL_text 130 = .ok (.iconst 5, 1)) (v := nI 5) rfl ?_
    refine lt_rem hx hb ⟨Nat.lt_trans (cv_lt _ _ _) (by decide), by omega, by omega⟩ (by decide +kernel : decode cL_text 131 = .ok (.irem, 1)) ?_
    refine lt_add hx hb (by decide +kernel : decode cL_text 132 = .ok (.iadd, 1)) ?_
    refine lt_I hB hC (by omega) hw h9 (by decide) hS hl.1 (by exact Nat.le_of_ble_eq_true rfl) (by omega) (by omega) (by decide +kernel : decode cL_text 133 = .ok (.invokevirtual 54, 3)) (fun H locs hw h9 hS => ?_)
    refine lv_pop hx hb (by decide +kernel : decode cL_text 136 = .ok (.pop, 1)) rfl ?_
    refine lv_iinc (v := nI (k + 1)) hx hb (by decide +kernel : decode cL_text 137 = .ok (.iinc 5 1, 3)) hl (k := 0) rfl (nI_inc k) (by decide) rfl (fun ls hl => ?_)
    refine lv_goto hx hb (by decide +kernel : decode cL_text 140 = .ok (.goto (-49), 3)) (tgt := 91) (by decide) ?_
    refine W.widen (k := 10 + 3 * (k + 1)) (n := 13020 + 4806 * (k + 1)) (by omega) (by omega) ?_
    refine ih (k + 1) (by omega) H locs ls hl ?_ hS
    show SBy D cB s0 sb (pre ++ encs (many (te1 sn sf) k ++ [te1 sn sf k])) H
    rw [encs_app, show encs [te1 sn sf k] = _ from (l_te (Nat.mod_lt _ (by decide))).symm]
    simp only [List.append_assoc] at hw ⊢
    exact hw
set_option maxHeartbeats 1000000 in
theorem lt_L2 (hB : tBs p R s s0 m c) (hC : tCx D cB s0 a0 dO dT b sn sf sL aL) {pre : List Nat} (hp : pre.length ≤ 300) (kk : ∀ (H : Heap) (locs : List Loc) (ls : Array Slot), lv_has ls 6 [(5, .int (nI (tNn sn sf))), (4, .ref sb), (3, .int (nI (tT sn sf))), (2, .int (nI (tU sn sf))), (1, .int (nI (tS sn sf))), (0, .ref b)] → SBy D cB s0 sb (pre ++ encs (many (no1 sn sf) (tNn sn sf))) H → va_S (tA s0) s.heap H locs → W p l e R s m args below meth c H locs (73) (113946) Q (F0 m 229 ls [])) :
    ∀ (n k : Nat), n + k = tNn sn sf → ∀ (H : Heap) (locs : List Loc) (ls : Array Slot), lv_has ls 6 [(5, .int (nI k)), (4, .ref sb), (3, .int (nI (tT sn sf))), (2, .int (nI (tU sn sf))), (1, .int (nI (tS sn sf))), (0, .ref b)] → SBy D cB s0 sb (pre ++ encs (many (no1 sn sf) k)) H → va_S (tA s0) s.heap H locs → W p l e R s m args below meth c H locs (25 + 6 * k) (37050 + 9612 * k) Q (F0 m 146 ls []) := by
  have hS8 : 8 ≤ tS sn sf ∧ tS sn sf ≤ 16 := by unfold tS; omega
  have hU3 : 1 ≤ tU sn sf ∧ tU sn sf ≤ 3 := by unfold tU; omega
  have hT5 : 1 ≤ tT sn sf ∧ tT sn sf ≤ 5 := by unfold tT; omega
  obtain ⟨hx, hb, hml, hown, hW, hS0, h1, h2, h3⟩ := id hB
  have hlim : tNn sn sf ≤ 8 := by unfold tNn; omega
  intro n
  induction n with
  | zero =>
    intro k hk H locs ls hl hw hS
    have hk : k = tNn sn sf := by omega
    refine lv_iload hx hb (by decide +kernel : decode cL_text 146 = .ok (.iload 5, 2)) (lv_at hl 0 rfl) ?_
    refine lv_aload_n hx hb (by decide +kernel : decode cL_text 148 = .ok (.aload_n 0, 1)) rfl (lv_at hl 5 rfl) ?_
    refine lv_bipush (v := nI 15) hx hb (by decide +kernel : decode cL_text 149 = .ok (.bipush 15, 2)) (by decide) ?_
    refine lt_cell hB hC (by omega) (Wd := SBy D cB s0 sb _) hw hS hl.1 (by exact Nat.le_of_ble_eq_true rfl) (by omega) (by omega) (by decide +kernel : decode cL_text 151 = .ok (.invokestatic 41, 3)) (fun H locs hw hS => ?_)
    refine lv_bipush (v := nI 9) hx hb (by decide +kernel : decode cL_text 154 = .ok (.bipush 9, 2)) (by decide) ?_
    refine lt_rem hx hb ⟨Nat.lt_trans (cv_lt _ _ _) (by decide), by omega, by omega⟩ (by decide +kernel : decode cL_text 156 = .ok (.irem, 1)) ?_
    refine lv_icmp_ge hx hb (by decide +kernel : decode cL_text 157 = .ok (.if_icmp .ge 72, 3)) (tgt := 229) (by decide) (fun _ => ?_) fun q => absurd (show nI (tNn sn sf) ≤ nI k from nI_le (by omega) (by omega)) q
    refine W.widen (k := 73) (n := 113946) (by omega) (by omega) ?_
    rw [hk] at hw hl
    exact kk H locs ls hl hw hS
  | succ n ih =>
    intro k hk H locs ls hl hw hS
    have hk5 : k < 8 := by omega
    have h9 : (pre ++ encs (many (no1 sn sf) k)).length ≤ 300 + 136 := by
      rw [List.length_append]
      have := (asc_many (asc_no sn sf) k).2
      omega
    have a1 := Nat.mod_lt (cv sn sf (16 + k)) (show 0 < tU sn sf by omega)
    have a2 := Nat.mod_lt (cv sn sf (24 + k)) (show 0 < tS sn sf by omega)
    refine lv_iload hx hb (by decide +kernel : decode cL_text 146 = .ok (.iload 5, 2)) (lv_at hl 0 rfl) ?_
    refine lv_aload_n hx hb (by decide +kernel : decode cL_text 148 = .ok (.aload_n 0, 1)) rfl (lv_at hl 5 rfl) ?_
    refine lv_bipush (v := nI 15) hx hb (by decide +kernel : decode cL_text 149 = .ok (.bipush 15, 2)) (by decide) ?_
    refine lt_cell hB hC (by omega) (Wd := SBy D cB s0 sb _) hw hS hl.1 (by exact Nat.le_of_ble_eq_true rfl) (by omega) (by omega) (by decide +kernel : decode cL_text 151 = .ok (.invokestatic 41, 3)) (fun H locs hw hS => ?_)
    refine lv_bipush (v := nI 9) hx hb (by decide +kernel : decode cL_text 154 = .ok (.bipush 9, 2)) (by decide) ?_
    refine lt_rem hx hb ⟨Nat.lt_trans (cv_lt _ _ _) (by decide), by omega, by omega⟩ (by decide +kernel : decode cL_text 156 = .ok (.irem, 1)) ?_
    refine lv_icmp_ge hx hb (by decide +kernel : decode cL_text 157 = .ok (.if_icmp .ge 72, 3)) (tgt := 229) (by decide) (fun q => absurd q (show ¬ nI (tNn sn sf) ≤ nI k from nI_ge (by omega) (by omega))) fun _ => ?_
    refine lv_aload hx hb (by decide +kernel : decode cL_text 160 = .ok (.aload 4, 2)) (lv_at hl 1 rfl) ?_
    refine va_ldcS hx hb hown (vk_R.warm hW (hC.2.2.2 7 (by decide)).1) (by decide +kernel : decode cL_text 162 = .ok (.ldc 71, 2)) ?_
    refine lt_S hB hC (i := 7) (by decide) hw h9 (by decide) hS hl.1 (by exact Nat.le_of_ble_eq_true rfl) (by omega) (by omega) (by decide +kernel : decode cL_text 164 = .ok (.invokevirtual 62, 3)) (fun H locs hw h9 hS => ?_)
    refine lv_aload_n hx hb (by decide +kernel : decode cL_text 167 = .ok (.aload_n 0, 1)) rfl (lv_at hl 5 rfl) ?_
    refine lv_bipush (v := nI 16) hx hb (by decide +kernel : decode cL_text 168 = .ok (.bipush 16, 2)) (by decide) ?_
    refine lv_iload hx hb (by decide +kernel : decode cL_text 170 = .ok (.iload 5, 2)) (lv_at hl 0 rfl) ?_
    refine lt_add hx hb (by decide +kernel : decode cL_text 172 = .ok (.iadd, 1)) ?_
    refine lt_cell hB hC (by omega) (Wd := SBy D cB s0 sb _) hw hS hl.1 (by exact Nat.le_of_ble_eq_true rfl) (by omega) (by omega) (by decide +kernel : decode cL_text 173 = .ok (.invokestatic 41, 3)) (fun H locs hw hS => ?_)
    refine lv_iload_n hx hb (by decide +kernel : decode cL_text 176 = .ok (.iload_n 2, 1)) rfl (lv_at hl 3 rfl) ?_
    refine lt_rem hx hb ⟨Nat.lt_trans (cv_lt _ _ _) (by decide), by omega, by omega⟩ (by decide +kernel : decode cL_text 177 = .ok (.irem, 1)) ?_
    refine lt_I hB hC (by omega) hw h9 (by decide) hS hl.1 (by exact Nat.le_of_ble_eq_true rfl) (by omega) (by omega) (by decide +kernel : decode cL_text 178 = .ok (.invokevirtual 54, 3)) (fun H locs hw h9 hS => ?_)
    refine lv_bipush (v := nI 32) hx hb (by decide +kernel : decode cL_text 181 = .ok (.bipush 32, 2)) (by decide) ?_
    refine lt_C hB hC (by decide) hw h9 (by decide) hS hl.1 (by exact Nat.le_of_ble_eq_true rfl) (by omega) (by omega) (by decide +kernel : decode cL_text 183 = .ok (.invokevirtual 57, 3)) (fun H locs hw h9 hS => ?_)
    refine lv_aload_n hx hb (by decide +kernel : decode cL_text 186 = .ok (.aload_n 0, 1)) rfl (lv_at hl 5 rfl) ?_
    refine lv_bipush (v := nI 24) hx hb (by decide +kernel : decode cL_text 187 = .ok (.bipush 24, 2)) (by decide) ?_
    refine lv_iload hx hb (by decide +kernel : decode cL_text 189 = .ok (.iload 5, 2)) (lv_at hl 0 rfl) ?_
    refine lt_add hx hb (by decide +kernel : decode cL_text 191 = .ok (.iadd, 1)) ?_
    refine lt_cell hB hC (by omega) (Wd := SBy D cB s0 sb _) hw hS hl.1 (by exact Nat.le_of_ble_eq_true rfl) (by omega) (by omega) (by decide +kernel : decode cL_text 192 = .ok (.invokestatic 41, 3)) (fun H locs hw hS => ?_)
    refine lv_iload_n hx hb (by decide +kernel : decode cL_text 195 = .ok (.iload_n 1, 1)) rfl (lv_at hl 4 rfl) ?_
    refine lt_rem hx hb ⟨Nat.lt_trans (cv_lt _ _ _) (by decide), by omega, by omega⟩ (by decide +kernel : decode cL_text 196 = .ok (.irem, 1)) ?_
    refine lt_I hB hC (by omega) hw h9 (by decide) hS hl.1 (by exact Nat.le_of_ble_eq_true rfl) (by omega) (by omega) (by decide +kernel : decode cL_text 197 = .ok (.invokevirtual 54, 3)) (fun H locs hw h9 hS => ?_)
    refine lv_bipush (v := nI 32) hx hb (by decide +kernel : decode cL_text 200 = .ok (.bipush 32, 2)) (by decide) ?_
    refine lt_C hB hC (by decide) hw h9 (by decide) hS hl.1 (by exact Nat.le_of_ble_eq_true rfl) (by omega) (by omega) (by decide +kernel : decode cL_text 202 = .ok (.invokevirtual 57, 3)) (fun H locs hw h9 hS => ?_)
    refine lv_aload_n hx hb (by decide +kernel : decode cL_text 205 = .ok (.aload_n 0, 1)) rfl (lv_at hl 5 rfl) ?_
    refine lv_bipush (v := nI 32) hx hb (by decide +kernel : decode cL_text 206 = .ok (.bipush 32, 2)) (by decide) ?_
    refine lv_iload hx hb (by decide +kernel : decode cL_text 208 = .ok (.iload 5, 2)) (lv_at hl 0 rfl) ?_
    refine lt_add hx hb (by decide +kernel : decode cL_text 210 = .ok (.iadd, 1)) ?_
    refine lt_cell hB hC (by omega) (Wd := SBy D cB s0 sb _) hw hS hl.1 (by exact Nat.le_of_ble_eq_true rfl) (by omega) (by omega) (by decide +kernel : decode cL_text 211 = .ok (.invokestatic 41, 3)) (fun H locs hw hS => ?_)
    refine lv_iconst hx hb (by decide +kernel : decode cL_text 214 = .ok (.iconst 4, 1)) (v := nI 4) rfl ?_
    refine lt_rem hx hb ⟨Nat.lt_trans (cv_lt _ _ _) (by decide), by omega, by omega⟩ (by decide +kernel : decode cL_text 215 = .ok (.irem, 1)) ?_
    refine lt_nm hB hC (Nat.mod_lt _ (by decide)) (Wd := SBy D cB s0 sb _) hw hS hl.1 (by exact Nat.le_of_ble_eq_true rfl) (by omega) (by omega) (by decide +kernel : decode cL_text 216 = .ok (.invokestatic 67, 3)) (fun H locs hw hS => ?_)
    refine lt_S hB hC (by omega) hw h9 (by decide) hS hl.1 (by exact Nat.le_of_ble_eq_true rfl) (by omega) (by omega) (by decide +kernel : decode cL_text 219 = .ok (.invokevirtual 62, 3)) (fun H locs hw h9 hS => ?_)
    refine lv_pop hx hb (by decide +kernel : decode cL_text 222 = .ok (.pop, 1)) rfl ?_
    refine lv_iinc (v := nI (k + 1)) hx hb (by decide +kernel : decode cL_text 223 = .ok (.iinc 5 1, 3)) hl (k := 0) rfl (nI_inc k) (by decide) rfl (fun ls hl => ?_)
    refine lv_goto hx hb (by decide +kernel : decode cL_text 226 = .ok (.goto (-80), 3)) (tgt := 146) (by decide) ?_
    refine W.widen (k := 25 + 6 * (k + 1)) (n := 37050 + 9612 * (k + 1)) (by omega) (by omega) ?_
    refine ih (k + 1) (by omega) H locs ls hl ?_ hS
    show SBy D cB s0 sb (pre ++ encs (many (no1 sn sf) k ++ [no1 sn sf k])) H
    rw [encs_app, show encs [no1 sn sf k] = _ from (l_no (Nat.mod_lt _ (by decide))).symm]
    simp only [List.append_assoc] at hw ⊢
    exact hw
set_option maxHeartbeats 1000000 in
theorem lt_L3 (hB : tBs p R s s0 m c) (hC : tCx D cB s0 a0 dO dT b sn sf sL aL) {pre : List Nat} (hp : pre.length ≤ 300) (kk : ∀ (H : Heap) (locs : List Loc) (ls : Array Slot), lv_has ls 6 [(5, .int (nI (tPn sn sf))), (4, .ref sb), (3, .int (nI (tT sn sf))), (2, .int (nI (tU sn sf))), (1, .int (nI (tS sn sf))), (0, .ref b)] → SBy D cB s0 sb (pre ++ encs (many (pi1 sn sf) (tPn sn sf))) H → va_S (tA s0) s.heap H locs → W p l e R s m args below meth c H locs (121) (190842) Q (F0 m 312 ls [])) :
    ∀ (n k : Nat), n + k = tPn sn sf → ∀ (H : Heap) (locs : List Loc) (ls : Array Slot), lv_has ls 6 [(5, .int (nI k)), (4, .ref sb), (3, .int (nI (tT sn sf))), (2, .int (nI (tU sn sf))), (1, .int (nI (tS sn sf))), (0, .ref b)] → SBy D cB s0 sb (pre ++ encs (many (pi1 sn sf) k)) H → va_S (tA s0) s.heap H locs → W p l e R s m args below meth c H locs (73 + 6 * k) (113946 + 9612 * k) Q (F0 m 232 ls []) := by
  have hS8 : 8 ≤ tS sn sf ∧ tS sn sf ≤ 16 := by unfold tS; omega
  have hU3 : 1 ≤ tU sn sf ∧ tU sn sf ≤ 3 := by unfold tU; omega
  have hT5 : 1 ≤ tT sn sf ∧ tT sn sf ≤ 5 := by unfold tT; omega
  obtain ⟨hx, hb, hml, hown, hW, hS0, h1, h2, h3⟩ := id hB
  have hlim : tPn sn sf ≤ 8 := by unfold tPn; omega
  intro n
  induction n with
  | zero =>
    intro k hk H locs ls hl hw hS
    have hk : k = tPn sn sf := by omega
    refine lv_iload hx hb (by decide +kernel : decode cL_text 232 = .ok (.iload 5, 2)) (lv_at hl 0 rfl) ?_
    refine lv_aload_n hx hb (by decide +kernel : decode cL_text 234 = .ok (.aload_n 0, 1)) rfl (lv_at hl 5 rfl) ?_
    refine lv_bipush (v := nI 40) hx hb (by decide +kernel : decode cL_text 235 = .ok (.bipush 40, 2)) (by decide) ?_
    refine lt_cell hB hC (by omega) (Wd := SBy D cB s0 sb _) hw hS hl.1 (by exact Nat.le_of_ble_eq_true rfl) (by omega) (by omega) (by decide +kernel : decode cL_text 237 = .ok (.invokestatic 41, 3)) (fun H locs hw hS => ?_)
    refine lv_bipush (v := nI 9) hx hb (by decide +kernel : decode cL_text 240 = .ok (.bipush 9, 2)) (by decide) ?_
    refine lt_rem hx hb ⟨Nat.lt_trans (cv_lt _ _ _) (by decide), by omega, by omega⟩ (by decide +kernel : decode cL_text 242 = .ok (.irem, 1)) ?_
    refine lv_icmp_ge hx hb (by decide +kernel : decode cL_text 243 = .ok (.if_icmp .ge 69, 3)) (tgt := 312) (by decide) (fun _ => ?_) fun q => absurd (show nI (tPn sn sf) ≤ nI k from nI_le (by omega) (by omega)) q
    refine W.widen (k := 121) (n := 190842) (by omega) (by omega) ?_
    rw [hk] at hw hl
    exact kk H locs ls hl hw hS
  | succ n ih =>
    intro k hk H locs ls hl hw hS
    have hk5 : k < 8 := by omega
    have h9 : (pre ++ encs (many (pi1 sn sf) k)).length ≤ 300 + 136 := by
      rw [List.length_append]
      have := (asc_many (asc_pi sn sf) k).2
      omega
    have a1 := Nat.mod_lt (cv sn sf (41 + k)) (show 0 < tU sn sf by omega)
    have a2 := Nat.mod_lt (cv sn sf (49 + k)) (show 0 < tS sn sf by omega)
    have a3 := Nat.mod_lt (cv sn sf (57 + k)) (show 0 < tT sn sf by omega)
    refine lv_iload hx hb (by decide +kernel : decode cL_text 232 = .ok (.iload 5, 2)) (lv_at hl 0 rfl) ?_
    refine lv_aload_n hx hb (by decide +kernel : decode cL_text 234 = .ok (.aload_n 0, 1)) rfl (lv_at hl 5 rfl) ?_
    refine lv_bipush (v := nI 40) hx hb (by decide +kernel : decode cL_text 235 = .ok (.bipush 40, 2)) (by decide) ?_
    refine lt_cell hB hC (by omega) (Wd := SBy D cB s0 sb _) hw hS hl.1 (by exact Nat.le_of_ble_eq_true rfl) (by omega) (by omega) (by decide +kernel : decode cL_text 237 = .ok (.invokestatic 41, 3)) (fun H locs hw hS => ?_)
    refine lv_bipush (v := nI 9) hx hb (by decide +kernel : decode cL_text 240 = .ok (.bipush 9, 2)) (by decide) ?_
    refine lt_rem hx hb ⟨Nat.lt_trans (cv_lt _ _ _) (by decide), by omega, by omega⟩ (by decide +kernel : decode cL_text 242 = .ok (.irem, 1)) ?_
    refine lv_icmp_ge hx hb (by decide +kernel : decode cL_text 243 = .ok (.if_icmp .ge 69, 3)) (tgt := 312) (by decide) (fun q => absurd q (show ¬ nI (tPn sn sf) ≤ nI k from nI_ge (by omega) (by omega))) fun _ => ?_
    refine lv_aload hx hb (by decide +kernel : decode cL_text 246 = .ok (.aload 4, 2)) (lv_at hl 1 rfl) ?_
    refine va_ldcS hx hb hown (vk_R.warm hW (hC.2.2.2 8 (by decide)).1) (by decide +kernel : decode cL_text 248 = .ok (.ldc 73, 2)) ?_
    refine lt_S hB hC (i := 8) (by decide) hw h9 (by decide) hS hl.1 (by exact Nat.le_of_ble_eq_true rfl) (by omega) (by omega) (by decide +kernel : decode cL_text 250 = .ok (.invokevirtual 62, 3)) (fun H locs hw h9 hS => ?_)
    refine lv_aload_n hx hb (by decide +kernel : decode cL_text 253 = .ok (.aload_n 0, 1)) rfl (lv_at hl 5 rfl) ?_
    refine lv_bipush (v := nI 41) hx hb (by decide +kernel : decode cL_text 254 = .ok (.bipush 41, 2)) (by decide) ?_
    refine lv_iload hx hb (by decide +kernel : decode cL_text 256 = .ok (.iload 5, 2)) (lv_at hl 0 rfl) ?_
    refine lt_add hx hb (by decide +kernel : decode cL_text 258 = .ok (.iadd, 1)) ?_
    refine lt_cell hB hC (by omega) (Wd := SBy D cB s0 sb _) hw hS hl.1 (by exact Nat.le_of_ble_eq_true rfl) (by omega) (by omega) (by decide +kernel : decode cL_text 259 = .ok (.invokestatic 41, 3)) (fun H locs hw hS => ?_)
    refine lv_iload_n hx hb (by decide +kernel : decode cL_text 262 = .ok (.iload_n 2, 1)) rfl (lv_at hl 3 rfl) ?_
    refine lt_rem hx hb ⟨Nat.lt_trans (cv_lt _ _ _) (by decide), by omega, by omega⟩ (by decide +kernel : decode cL_text 263 = .ok (.irem, 1)) ?_
    refine lt_I hB hC (by omega) hw h9 (by decide) hS hl.1 (by exact Nat.le_of_ble_eq_true rfl) (by omega) (by omega) (by decide +kernel : decode cL_text 264 = .ok (.invokevirtual 54, 3)) (fun H locs hw h9 hS => ?_)
    refine lv_bipush (v := nI 32) hx hb (by decide +kernel : decode cL_text 267 = .ok (.bipush 32, 2)) (by decide) ?_
    refine lt_C hB hC (by decide) hw h9 (by decide) hS hl.1 (by exact Nat.le_of_ble_eq_true rfl) (by omega) (by omega) (by decide +kernel : decode cL_text 269 = .ok (.invokevirtual 57, 3)) (fun H locs hw h9 hS => ?_)
    refine lv_aload_n hx hb (by decide +kernel : decode cL_text 272 = .ok (.aload_n 0, 1)) rfl (lv_at hl 5 rfl) ?_
    refine lv_bipush (v := nI 49) hx hb (by decide +kernel : decode cL_text 273 = .ok (.bipush 49, 2)) (by decide) ?_
    refine lv_iload hx hb (by decide +kernel : decode cL_text 275 = .ok (.iload 5, 2)) (lv_at hl 0 rfl) ?_
    refine lt_add hx hb (by decide +kernel : decode cL_text 277 = .ok (.iadd, 1)) ?_
    refine lt_cell hB hC (by omega) (Wd := SBy D cB s0 sb _) hw hS hl.1 (by exact Nat.le_of_ble_eq_true rfl) (by omega) (by omega) (by decide +kernel : decode cL_text 278 = .ok (.invokestatic 41, 3)) (fun H locs hw hS => ?_)
    refine lv_iload_n hx hb (by decide +kernel : decode cL_text 281 = .ok (.iload_n 1, 1)) rfl (lv_at hl 4 rfl) ?_
    refine lt_rem hx hb ⟨Nat.lt_trans (cv_lt _ _ _) (by decide), by omega, by omega⟩ (by decide +kernel : decode cL_text 282 = .ok (.irem, 1)) ?_
    refine lt_I hB hC (by omega) hw h9 (by decide) hS hl.1 (by exact Nat.le_of_ble_eq_true rfl) (by omega) (by omega) (by decide +kernel : decode cL_text 283 = .ok (.invokevirtual 54, 3)) (fun H locs hw h9 hS => ?_)
    refine lv_bipush (v := nI 32) hx hb (by decide +kernel : decode cL_text 286 = .ok (.bipush 32, 2)) (by decide) ?_
    refine lt_C hB hC (by decide) hw h9 (by decide) hS hl.1 (by exact Nat.le_of_ble_eq_true rfl) (by omega) (by omega) (by decide +kernel : decode cL_text 288 = .ok (.invokevirtual 57, 3)) (fun H locs hw h9 hS => ?_)
    refine lv_aload_n hx hb (by decide +kernel : decode cL_text 291 = .ok (.aload_n 0, 1)) rfl (lv_at hl 5 rfl) ?_
    refine lv_bipush (v := nI 57) hx hb (by decide +kernel : decode cL_text 292 = .ok (.bipush 57, 2)) (by decide) ?_
    refine lv_iload hx hb (by decide +kernel : decode cL_text 294 = .ok (.iload 5, 2)) (lv_at hl 0 rfl) ?_
    refine lt_add hx hb (by decide +kernel : decode cL_text 296 = .ok (.iadd, 1)) ?_
    refine lt_cell hB hC (by omega) (Wd := SBy D cB s0 sb _) hw hS hl.1 (by exact Nat.le_of_ble_eq_true rfl) (by omega) (by omega) (by decide +kernel : decode cL_text 297 = .ok (.invokestatic 41, 3)) (fun H locs hw hS => ?_)
    refine lv_iload_n hx hb (by decide +kernel : decode cL_text 300 = .ok (.iload_n 3, 1)) rfl (lv_at hl 2 rfl) ?_
    refine lt_rem hx hb ⟨Nat.lt_trans (cv_lt _ _ _) (by decide), by omega, by omega⟩ (by decide +kernel : decode cL_text 301 = .ok (.irem, 1)) ?_
    refine lt_I hB hC (by omega) hw h9 (by decide) hS hl.1 (by exact Nat.le_of_ble_eq_true rfl) (by omega) (by omega) (by decide +kernel : decode cL_text 302 = .ok (.invokevirtual 54, 3)) (fun H locs hw h9 hS => ?_)
    refine lv_pop hx hb (by decide +kernel : decode cL_text 305 = .ok (.pop, 1)) rfl ?_
    refine lv_iinc (v := nI (k + 1)) hx hb (by decide +kernel : decode cL_text 306 = .ok (.iinc 5 1, 3)) hl (k := 0) rfl (nI_inc k) (by decide) rfl (fun ls hl => ?_)
    refine lv_goto hx hb (by decide +kernel : decode cL_text 309 = .ok (.goto (-77), 3)) (tgt := 232) (by decide) ?_
    refine W.widen (k := 73 + 6 * (k + 1)) (n := 113946 + 9612 * (k + 1)) (by omega) (by omega) ?_
    refine ih (k + 1) (by omega) H locs ls hl ?_ hS
    show SBy D cB s0 sb (pre ++ encs (many (pi1 sn sf) k ++ [pi1 sn sf k])) H
    rw [encs_app, show encs [pi1 sn sf k] = _ from l_pi.symm]
    simp only [List.append_assoc] at hw ⊢
    exact hw
/-- the letters before the teeth -/
def tHd (sn : Nat) (sf : Nat → Int32) : List Nat := lwT 0 ++ (nu (tS sn sf) ++ ([32] ++ (nu (tU sn sf) ++ ([32] ++ (nu (tG sn sf) ++ (lwT 1 ++ nu (tV sn sf)))))))
theorem tHd_text (sn : Nat) (sf : Nat → Int32) : ((tHd sn sf ++ encs (many (te1 sn sf) (tT sn sf))) ++ encs (many (no1 sn sf) (tNn sn sf))) ++ encs (many (pi1 sn sf) (tPn sn sf)) = tText sn sf := by
  have e : encs (tList sn sf) = ((59 :: ((wSpe ++ 32 :: nu (tV sn sf)) ++ ([] ++ encs (many (te1 sn sf) (tT sn sf))))) ++ encs (many (no1 sn sf) (tNn sn sf))) ++ encs (many (pi1 sn sf) (tPn sn sf)) := by
    unfold tList tL2
    rw [encs_app, encs_app]
    rfl
  unfold tText tAll
  rw [e]
  show ((((wBar ++ [32]) ++ (nu (tS sn sf) ++ ([32] ++ (nu (tU sn sf) ++ ([32] ++ (nu (tG sn sf) ++ ((59 :: (wSpe ++ [32])) ++ nu (tV sn sf)))))))) ++ _) ++ _) ++ _ = _
  simp
theorem tHd_len (sn : Nat) (sf : Nat → Int32) : (tHd sn sf).length ≤ 60 := by
  have l1 := nu_len (tS sn sf)
  have l2 := nu_len (tU sn sf)
  have l3 := nu_len (tG sn sf)
  have l4 := nu_len (tV sn sf)
  have z0 := (lwT_ok 0 (by decide)).2
  have z1 := (lwT_ok 1 (by decide)).2
  unfold tHd
  simp only [List.length_append, List.length_cons, List.length_nil]
  omega
set_option maxHeartbeats 1000000 in
theorem lt_Hd (hB : tBs p R s s0 m c) (hC : tCx D cB s0 a0 dO dT b sn sf sL aL) {H : Heap} {locs : List Loc} {ls : Array Slot} (hl : lv_has ls 6 [(3, .int (nI (tT sn sf))), (2, .int (nI (tU sn sf))), (1, .int (nI (tS sn sf))), (0, .ref b)]) (hw : SBy D cB s0 sb (lwT 0) H) (hS : va_S (tA s0) s.heap H locs)
    (kk : ∀ (H : Heap) (locs : List Loc) (ls : Array Slot), lv_has ls 6 [(5, .int (nI 0)), (4, .ref sb), (3, .int (nI (tT sn sf))), (2, .int (nI (tU sn sf))), (1, .int (nI (tS sn sf))), (0, .ref b)] → SBy D cB s0 sb (tHd sn sf) H → va_S (tA s0) s.heap H locs → W p l e R s m args below meth c H locs (10) (13020) Q (F0 m 91 ls [])) : W p l e R s m args below meth c H locs 3 1806 Q (F0 m 41 ls [.ref sb]) := by
  have hS8 : 8 ≤ tS sn sf ∧ tS sn sf ≤ 16 := by unfold tS; omega
  have hU3 : 1 ≤ tU sn sf ∧ tU sn sf ≤ 3 := by unfold tU; omega
  have hT5 : 1 ≤ tT sn sf ∧ tT sn sf ≤ 5 := by unfold tT; omega
  obtain ⟨hx, hb, hml, hown, hW, hS0, h1, h2, h3⟩ := id hB
  have hG3 : tG sn sf ≤ 3 := by unfold tG; omega
  have hV3 : tV sn sf ≤ 3 := by unfold tV; omega
  have h9 := (lwT_ok 0 (by decide)).2
  refine lv_iload_n hx hb (by decide +kernel : decode cL_text 41 = .ok (.iload_n 1, 1)) rfl (lv_at hl 2 rfl) ?_
  refine lt_I hB hC (by omega) hw h9 (by decide) hS hl.1 (by exact Nat.le_of_ble_eq_true rfl) (by omega) (by omega) (by decide +kernel : decode cL_text 42 = .ok (.invokevirtual 54, 3)) (fun H locs hw h9 hS => ?_)
  refine lv_bipush (v := nI 32) hx hb (by decide +kernel : decode cL_text 45 = .ok (.bipush 32, 2)) (by decide) ?_
  refine lt_C hB hC (by decide) hw h9 (by decide) hS hl.1 (by exact Nat.le_of_ble_eq_true rfl) (by omega) (by omega) (by decide +kernel : decode cL_text 47 = .ok (.invokevirtual 57, 3)) (fun H locs hw h9 hS => ?_)
  refine lv_iload_n hx hb (by decide +kernel : decode cL_text 50 = .ok (.iload_n 2, 1)) rfl (lv_at hl 1 rfl) ?_
  refine lt_I hB hC (by omega) hw h9 (by decide) hS hl.1 (by exact Nat.le_of_ble_eq_true rfl) (by omega) (by omega) (by decide +kernel : decode cL_text 51 = .ok (.invokevirtual 54, 3)) (fun H locs hw h9 hS => ?_)
  refine lv_bipush (v := nI 32) hx hb (by decide +kernel : decode cL_text 54 = .ok (.bipush 32, 2)) (by decide) ?_
  refine lt_C hB hC (by decide) hw h9 (by decide) hS hl.1 (by exact Nat.le_of_ble_eq_true rfl) (by omega) (by omega) (by decide +kernel : decode cL_text 56 = .ok (.invokevirtual 57, 3)) (fun H locs hw h9 hS => ?_)
  refine lv_aload_n hx hb (by decide +kernel : decode cL_text 59 = .ok (.aload_n 0, 1)) rfl (lv_at hl 3 rfl) ?_
  refine lv_iconst hx hb (by decide +kernel : decode cL_text 60 = .ok (.iconst 3, 1)) (v := nI 3) rfl ?_
  refine lt_cell hB hC (by omega) (Wd := SBy D cB s0 sb _) hw hS hl.1 (by exact Nat.le_of_ble_eq_true rfl) (by omega) (by omega) (by decide +kernel : decode cL_text 61 = .ok (.invokestatic 41, 3)) (fun H locs hw hS => ?_)
  refine lv_iconst hx hb (by decide +kernel : decode cL_text 64 = .ok (.iconst 4, 1)) (v := nI 4) rfl ?_
  refine lt_rem hx hb ⟨Nat.lt_trans (cv_lt _ _ _) (by decide), by omega, by omega⟩ (by decide +kernel : decode cL_text 65 = .ok (.irem, 1)) ?_
  refine lt_I hB hC (by omega) hw h9 (by decide) hS hl.1 (by exact Nat.le_of_ble_eq_true rfl) (by omega) (by omega) (by decide +kernel : decode cL_text 66 = .ok (.invokevirtual 54, 3)) (fun H locs hw h9 hS => ?_)
  refine va_ldcS hx hb hown (vk_R.warm hW (hC.2.2.2 1 (by decide)).1) (by decide +kernel : decode cL_text 69 = .ok (.ldc 60, 2)) ?_
  refine lt_S hB hC (i := 1) (by decide) hw h9 (by decide) hS hl.1 (by exact Nat.le_of_ble_eq_true rfl) (by omega) (by omega) (by decide +kernel : decode cL_text 71 = .ok (.invokevirtual 62, 3)) (fun H locs hw h9 hS => ?_)
  refine lv_iconst hx hb (by decide +kernel : decode cL_text 74 = .ok (.iconst 1, 1)) (v := nI 1) rfl ?_
  refine lv_aload_n hx hb (by decide +kernel : decode cL_text 75 = .ok (.aload_n 0, 1)) rfl (lv_at hl 3 rfl) ?_
  refine lv_iconst hx hb (by decide +kernel : decode cL_text 76 = .ok (.iconst 4, 1)) (v := nI 4) rfl ?_
  refine lt_cell hB hC (by omega) (Wd := SBy D cB s0 sb _) hw hS hl.1 (by exact Nat.le_of_ble_eq_true rfl) (by omega) (by omega) (by decide +kernel : decode cL_text 77 = .ok (.invokestatic 41, 3)) (fun H locs hw hS => ?_)
  refine lv_iconst hx hb (by decide +kernel : decode cL_text 80 = .ok (.iconst 3, 1)) (v := nI 3) rfl ?_
  refine lt_rem hx hb ⟨Nat.lt_trans (cv_lt _ _ _) (by decide), by omega, by omega⟩ (by decide +kernel : decode cL_text 81 = .ok (.irem, 1)) ?_
  refine lt_add hx hb (by decide +kernel : decode cL_text 82 = .ok (.iadd, 1)) ?_
  refine lt_I hB hC (by omega) hw h9 (by decide) hS hl.1 (by exact Nat.le_of_ble_eq_true rfl) (by omega) (by omega) (by decide +kernel : decode cL_text 83 = .ok (.invokevirtual 54, 3)) (fun H locs hw h9 hS => ?_)
  refine lv_astore hx hb (by decide +kernel : decode cL_text 86 = .ok (.astore 4, 2)) hl (by decide) rfl (fun ls hl => ?_)
  refine lv_iconst hx hb (by decide +kernel : decode cL_text 88 = .ok (.iconst 0, 1)) (v := nI 0) rfl ?_
  refine lv_istore hx hb (by decide +kernel : decode cL_text 89 = .ok (.istore 5, 2)) hl (by decide) rfl (fun ls hl => ?_)
  refine W.widen (k := 10) (n := 13020) (by decide) (by decide) ?_
  refine kk H locs ls hl ?_ hS
  simp only [List.append_assoc] at hw
  exact hw


set_option maxHeartbeats 1000000 in
theorem jt_text (hC : tCx D cB s0 a0 dO dT b sn sf sL aL) : tMet l yL_text cL_text 6 (some (.object "java/lang/String")) 9 300 124 192000 s0 [.ref b] (WS D s0 []) (fun r H => ∃ st q, r = some (.ref st) ∧ STt D cB s0 (tText sn sf) st q H) := by
  have hF := hC.1
  refine Met.ofW (by decide) rfl fun p e s m args below meth c s₁ B hml hP => ?_
  obtain ⟨rfl, hW, hS0, hw⟩ := hP
  have hx := B.exec
  have hb := B.bytes
  have hT := pj_at hF.1 hW #[Value.ref b]
  have hTS := TS_at hF.1 hW #[Value.ref b]
  have hK := va_K.moved hW.alike hF.2.1
  have hZ := (va_Z.moved hW.alike hF.2.2).kept hS0.2.1
  have hown := findClass_of_methodNamed B.named
  have hS : va_S (tA s0) s.heap s.heap [] := va_S.rf
  have hA : ∀ q : Nat, s.heap.size ≤ q → tA s0 q := fun q h => Nat.le_trans hS0.1 h
  have hpre : ∀ {H1 : Heap} {locs1 : List Loc} {Wd : Heap → Prop}, va_S (tA s0) s.heap H1 locs1 → Wd H1 → ∀ (av : List Value) (U : State), U.heap = H1 → s.WarmedH U.vm → tP s0 av Wd av.toArray U := fun hS1 hw1 av U hU hWU => ⟨rfl, State.WarmedH.trans hW hWU, by rw [hU]; exact pas_nil (pas_trans hS0 hS1), by rw [hU]; exact hw1⟩
  have hl := lv_entry [.ref b] (n := 6) (Nat.le_of_ble_eq_true rfl)
  rw [lg_entry_eq]
  generalize (lg_sl [.ref b] ++ List.replicate (6 - (lg_sl [.ref b]).length) Slot.unset).toArray = ls at hl ⊢
  have hl : lv_has ls 6 [(0, .ref b)] := hl
  have hB : tBs p { frames := 9, locals := 300, cells := 124, slots := 192000 } s s0 m c := ⟨hx, hb, hml, hown, hW, hS0, ⟨Nat.le_refl _, Nat.le_refl _⟩, Nat.le_refl _, Nat.le_refl _⟩
  have hl0 := tHd_len sn sf
  refine lv_bipush (v := nI 8) hx hb (by decide +kernel : decode cL_text 0 = .ok (.bipush 8, 2)) (by decide) ?_
  refine lv_aload_n hx hb (by decide +kernel : decode cL_text 2 = .ok (.aload_n 0, 1)) rfl (lv_at hl 0 rfl) ?_
  refine lv_iconst hx hb (by decide +kernel : decode cL_text 3 = .ok (.iconst 0, 1)) (v := nI 0) rfl ?_
  refine lt_cell hB hC (by omega) (Wd := WS D s0 []) hw hS hl.1 (by exact Nat.le_of_ble_eq_true rfl) (by omega) (by omega) (by decide +kernel : decode cL_text 4 = .ok (.invokestatic 41, 3)) (fun H locs hw hS => ?_)
  refine lv_bipush (v := nI 9) hx hb (by decide +kernel : decode cL_text 7 = .ok (.bipush 9, 2)) (by decide) ?_
  refine lt_rem hx hb ⟨Nat.lt_trans (cv_lt _ _ _) (by decide), by omega, by omega⟩ (by decide +kernel : decode cL_text 9 = .ok (.irem, 1)) ?_
  refine lt_add hx hb (by decide +kernel : decode cL_text 10 = .ok (.iadd, 1)) ?_
  refine lv_istore_n hx hb (by decide +kernel : decode cL_text 11 = .ok (.istore_n 1, 1)) rfl hl (by decide) rfl (fun ls hl => ?_)
  refine lv_iconst hx hb (by decide +kernel : decode cL_text 12 = .ok (.iconst 1, 1)) (v := nI 1) rfl ?_
  refine lv_aload_n hx hb (by decide +kernel : decode cL_text 13 = .ok (.aload_n 0, 1)) rfl (lv_at hl 1 rfl) ?_
  refine lv_iconst hx hb (by decide +kernel : decode cL_text 14 = .ok (.iconst 1, 1)) (v := nI 1) rfl ?_
  refine lt_cell hB hC (by omega) (Wd := WS D s0 []) hw hS hl.1 (by exact Nat.le_of_ble_eq_true rfl) (by omega) (by omega) (by decide +kernel : decode cL_text 15 = .ok (.invokestatic 41, 3)) (fun H locs hw hS => ?_)
  refine lv_iconst hx hb (by decide +kernel : decode cL_text 18 = .ok (.iconst 3, 1)) (v := nI 3) rfl ?_
  refine lt_rem hx hb ⟨Nat.lt_trans (cv_lt _ _ _) (by decide), by omega, by omega⟩ (by decide +kernel : decode cL_text 19 = .ok (.irem, 1)) ?_
  refine lt_add hx hb (by decide +kernel : decode cL_text 20 = .ok (.iadd, 1)) ?_
  refine lv_istore_n hx hb (by decide +kernel : decode cL_text 21 = .ok (.istore_n 2, 1)) rfl hl (by decide) rfl (fun ls hl => ?_)
  refine lv_iconst hx hb (by decide +kernel : decode cL_text 22 = .ok (.iconst 1, 1)) (v := nI 1) rfl ?_
  refine lv_aload_n hx hb (by decide +kernel : decode cL_text 23 = .ok (.aload_n 0, 1)) rfl (lv_at hl 2 rfl) ?_
  refine lv_iconst hx hb (by decide +kernel : decode cL_text 24 = .ok (.iconst 2, 1)) (v := nI 2) rfl ?_
  refine lt_cell hB hC (by omega) (Wd := WS D s0 []) hw hS hl.1 (by exact Nat.le_of_ble_eq_true rfl) (by omega) (by omega) (by decide +kernel : decode cL_text 25 = .ok (.invokestatic 41, 3)) (fun H locs hw hS => ?_)
  refine lv_iconst hx hb (by decide +kernel : decode cL_text 28 = .ok (.iconst 5, 1)) (v := nI 5) rfl ?_
  refine lt_rem hx hb ⟨Nat.lt_trans (cv_lt _ _ _) (by decide), by omega, by omega⟩ (by decide +kernel : decode cL_text 29 = .ok (.irem, 1)) ?_
  refine lt_add hx hb (by decide +kernel : decode cL_text 30 = .ok (.iadd, 1)) ?_
  refine lv_istore_n hx hb (by decide +kernel : decode cL_text 31 = .ok (.istore_n 3, 1)) rfl hl (by decide) rfl (fun ls hl => ?_)
  refine va_new (ci := 0) (fs := [.null, .int 0, .int 0, .int 0]) (C := RJ4) (T := TJ4) (N := 4) hx hb hT jt_ws4 tyJ4 tyJ4_ok hown (hT _ okC_47) (hT _ okT_n_StringBuilder) (hT _ okT_i_java_lang_StringBuilder) hK hw.1 hw.2 hS hA rfl (fun j hj => by rcases (show j = 0 ∨ j = 1 ∨ j = 2 ∨ j = 3 by omega) with rfl | rfl | rfl | rfl <;> rfl) (by show 0 + 1 ≤ 124; decide) (by show 0 + 4 ≤ 192000; decide) (by decide +kernel : decode cL_text 32 = .ok (.new 47, 3)) (fun sb H hP hD hS => ?_)
  have hw : WS D s0 [(sb, .inr (0, [.null, .int 0, .int 0, .int 0]))] H := ⟨hP, hD⟩
  refine W.widen (k := 1) (n := 4) (by decide) (by decide) ?_
  refine lv_dup hx hb (by decide +kernel : decode cL_text 35 = .ok (.dup, 1)) rfl ?_
  refine va_ldcS hx hb hown (vk_R.warm hW (hC.2.2.2 0 (by decide)).1) (by decide +kernel : decode cL_text 36 = .ok (.ldc 49, 2)) ?_
  refine t_use (va_runI (Ts := TG) (As := [.ref (sL 0)]) (n := 1) (nL := 6) (rest := [.ref sb]) ⟨hx, hb, hml, hown, hT⟩ (jt_in4 hF (hC.2.2.2 0 (by decide)).2 (lwT_ok 0 (by decide)).1 (Nat.le_trans (lwT_ok 0 (by decide)).2 (by decide))) ⟨pj_cb hT okT_J4_init_a7421_c okT_i_java_lang_StringBuilder okT_l_PinBarrelLaw_51 ⟨by decide, by decide, by decide +kernel⟩ ⟨by show 8 + 1 ≤ 9; decide, by show 8 + (2 + 11) + 270 ≤ 300; decide⟩, rfl, hT _ okT_J4_init_a7421_i⟩ ⟨tP_blind, hpre hS hw [.ref sb, .ref (sL 0)]⟩ rfl rfl hl.1 rfl (by show 2 * 0 + (1 + 0) ≤ 8; decide) (by decide +kernel : decode cL_text 38 = .ok (.invokespecial 51, 3)) ⟨by show 1 + 2 ≤ 124; decide, by show 4 + 1802 ≤ 192000; decide⟩) hS (fun r H locs hv hS => ?_)
  obtain ⟨rfl, hw⟩ := hv
  refine W.widen (k := 3) (n := 1806) (by decide) (by decide) ?_
  refine lt_Hd hB hC hl ⟨_, by have := (lwT_ok 0 (by decide)).2; omega, hw⟩ hS (fun H locs ls hl hw hS => ?_)
  refine lt_L1 hB hC (pre := tHd sn sf) (by omega) (fun H locs ls hl hw hS => ?_) (tT sn sf) 0 (Nat.add_zero _) H locs ls hl (by rw [show encs (many (te1 sn sf) 0) = [] from rfl, List.append_nil]; exact hw) hS
  have hT5 : tT sn sf ≤ 5 := by unfold tT; omega
  have hN8 : tNn sn sf ≤ 8 := by unfold tNn; omega
  have z1 := (asc_many (asc_te sn sf) (tT sn sf)).2
  have z2 := (asc_many (asc_no sn sf) (tNn sn sf)).2
  refine lv_iconst hx hb (by decide +kernel : decode cL_text 143 = .ok (.iconst 0, 1)) (v := nI 0) rfl ?_
  refine lv_istore hx hb (by decide +kernel : decode cL_text 144 = .ok (.istore 5, 2)) hl (by decide) rfl (fun ls hl => ?_)
  refine lt_L2 hB hC (pre := tHd sn sf ++ encs (many (te1 sn sf) (tT sn sf))) (by rw [List.length_append]; omega) (fun H locs ls hl hw hS => ?_) (tNn sn sf) 0 (Nat.add_zero _) H locs ls hl (by rw [show encs (many (no1 sn sf) 0) = [] from rfl, List.append_nil]; exact hw) hS
  refine lv_iconst hx hb (by decide +kernel : decode cL_text 229 = .ok (.iconst 0, 1)) (v := nI 0) rfl ?_
  refine lv_istore hx hb (by decide +kernel : decode cL_text 230 = .ok (.istore 5, 2)) hl (by decide) rfl (fun ls hl => ?_)
  refine lt_L3 hB hC (pre := (tHd sn sf ++ encs (many (te1 sn sf) (tT sn sf))) ++ encs (many (no1 sn sf) (tNn sn sf))) (by rw [List.length_append, List.length_append]; omega) (fun H locs ls hl hw hS => ?_) (tPn sn sf) 0 (Nat.add_zero _) H locs ls hl (by rw [show encs (many (pi1 sn sf) 0) = [] from rfl, List.append_nil]; exact hw) hS
  rw [tHd_text] at hw
  obtain ⟨m9, hm9, hw⟩ := hw
  have hw9 := hw
  obtain ⟨av, f, hwc, -⟩ := hw9
  refine lv_aload hx hb (by decide +kernel : decode cL_text 312 = .ok (.aload 4, 2)) (lv_at hl 1 rfl) ?_
  refine t_use (va_runV (C := RJ4) (Ts := TG) (As := []) (n := 0) (nL := 6) (rest := []) ⟨hx, hb, hml, hown, hT⟩ (jt_tos hF (by have := (text_asc sn sf).2; omega) hm9 (b0 := 0)) ⟨pj_cb hT okT_J4_toString_0e30d_c okT_i_java_lang_StringBuilder okT_l_PinBarrelLaw_75 ⟨by decide, by decide, by decide +kernel⟩ ⟨by show 5 + 1 ≤ 9; decide, by show 8 + (1 + 11) + 190 ≤ 300; decide⟩, hT _ okT_J4_toString_0e30d_i, hT _ okT_v_StringBuilder_J4_toString_0e30d⟩ ⟨tP_blind, va_recv hK hwc.1 (ci := 0) (q0 := 0) rfl rfl, hpre hS hw _⟩ rfl rfl hl.1 rfl (by show 2 * 0 + 0 ≤ 8; decide) (by decide +kernel : decode cL_text 314 = .ok (.invokevirtual 75, 3)) ⟨by show 121 + 2 ≤ 124; decide, by show 190842 + 804 ≤ 192000; decide⟩) hS (fun r H1 locs1 hv hS => ?_)
  obtain ⟨st, q, rfl, hw⟩ := hv
  refine W.widen (k := 124) (n := 192000) (by decide) (by decide) ?_
  exact W.aret hx hb B.returns (Or.inl ⟨_, rfl⟩) (Or.inr ⟨_, rfl⟩) (fun t ht _ => ⟨_, rfl, hS.F ht, st, q, rfl, by rw [ht]; exact hw⟩) hS.2.2 (by decide +kernel : decode cL_text 317 = .ok (.areturn, 1)) B.notSynchronized
end TXW
