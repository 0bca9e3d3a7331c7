/-! the classes of the worlds and their words -/
def okU (ci : Nat) : Prop := ∃ (C : String) (T : u_T) (N : Nat) (ty : Nat → FieldType), vwCl[ci]? = some (C, T, N) ∧ (∀ k, k < N → u_lay C T k ∈ TG) ∧ (∀ k, k < N → parseFieldDescriptor (T k).2.2.1 = some (ty k)) ∧ (∀ a, a < N → ∀ b, b < N → a ≠ b → (T a).2.1 ≠ (T b).2.1) ∧ (∀ k, k < N → (oT ci).getD k .byte = ty k) ∧ (∀ k, k < N → (T k).1 = C) ∧ Cond.instantiable C N ∈ TG ∧ Cond.initialized C ∈ TG ∧ (oF ci).length = N ∧ (∀ j, j < N → defaultValue (ty j) = vp_V (oF ci) j) ∧ ∀ ad : Nat → Nat, (oF ci).map (mV ad) = oF ci
theorem u_wsTG {C : String} {T : u_T} {N : Nat} (h : ∀ k, k < N → u_lay C T k ∈ TG) : ∀ w ∈ u_ws C T N, w ∈ TG := by
  intro w hw
  obtain ⟨k, hk, rfl⟩ := List.mem_map.mp hw
  exact h k (List.mem_range.mp hk)
set_option maxRecDepth 100000 in
theorem okU_0 : okU 0 := ⟨RX0, TX0, 10, tyX0, rfl, lt_s (lt_s (lt_s (lt_s (lt_s (lt_s (lt_s (lt_s (lt_s (lt_s (lt_0) (tg 181 rfl rfl)) (tg 183 rfl rfl)) (tg 185 rfl rfl)) (tg 187 rfl rfl)) (tg 189 rfl rfl)) (tg 191 rfl rfl)) (tg 193 rfl rfl)) (tg 195 rfl rfl)) (tg 197 rfl rfl)) (tg 199 rfl rfl), tyX0_ok, nmX0, lt_s (lt_s (lt_s (lt_s (lt_s (lt_s (lt_s (lt_s (lt_s (lt_s (lt_0) (rfl)) (rfl)) (rfl)) (rfl)) (rfl)) (rfl)) (rfl)) (rfl)) (rfl)) (rfl), lt_s (lt_s (lt_s (lt_s (lt_s (lt_s (lt_s (lt_s (lt_s (lt_s (lt_0) (rfl)) (rfl)) (rfl)) (rfl)) (rfl)) (rfl)) (rfl)) (rfl)) (rfl)) (rfl), tg 64 rfl rfl, tg 29 rfl rfl, rfl, lt_s (lt_s (lt_s (lt_s (lt_s (lt_s (lt_s (lt_s (lt_s (lt_s (lt_0) (rfl)) (rfl)) (rfl)) (rfl)) (rfl)) (rfl)) (rfl)) (rfl)) (rfl)) (rfl), fun _ => rfl⟩
set_option maxRecDepth 100000 in
theorem okU_1 : okU 1 := ⟨RX1, TX1, 3, tyX1, rfl, lt_s (lt_s (lt_s (lt_0) (tg 215 rfl rfl)) (tg 217 rfl rfl)) (tg 219 rfl rfl), tyX1_ok, nmX1, lt_s (lt_s (lt_s (lt_0) (rfl)) (rfl)) (rfl), lt_s (lt_s (lt_s (lt_0) (rfl)) (rfl)) (rfl), tg 203 rfl rfl, tg 33 rfl rfl, rfl, lt_s (lt_s (lt_s (lt_0) (rfl)) (rfl)) (rfl), fun _ => rfl⟩
set_option maxRecDepth 100000 in
theorem okU_2 : okU 2 := ⟨RX2, TX2, 4, tyX2, rfl, lt_s (lt_s (lt_s (lt_s (lt_0) (tg 92 rfl rfl)) (tg 94 rfl rfl)) (tg 96 rfl rfl)) (tg 98 rfl rfl), tyX2_ok, nmX2, lt_s (lt_s (lt_s (lt_s (lt_0) (rfl)) (rfl)) (rfl)) (rfl), lt_s (lt_s (lt_s (lt_s (lt_0) (rfl)) (rfl)) (rfl)) (rfl), tg 70 rfl rfl, tg 30 rfl rfl, rfl, lt_s (lt_s (lt_s (lt_s (lt_0) (rfl)) (rfl)) (rfl)) (rfl), fun _ => rfl⟩
set_option maxRecDepth 100000 in
theorem okU_3 : okU 3 := ⟨RX3, TX3, 9, tyX3, rfl, lt_s (lt_s (lt_s (lt_s (lt_s (lt_s (lt_s (lt_s (lt_s (lt_0) (tg 132 rfl rfl)) (tg 134 rfl rfl)) (tg 136 rfl rfl)) (tg 138 rfl rfl)) (tg 140 rfl rfl)) (tg 142 rfl rfl)) (tg 144 rfl rfl)) (tg 146 rfl rfl)) (tg 148 rfl rfl), tyX3_ok, nmX3, lt_s (lt_s (lt_s (lt_s (lt_s (lt_s (lt_s (lt_s (lt_s (lt_0) (rfl)) (rfl)) (rfl)) (rfl)) (rfl)) (rfl)) (rfl)) (rfl)) (rfl), lt_s (lt_s (lt_s (lt_s (lt_s (lt_s (lt_s (lt_s (lt_s (lt_0) (rfl)) (rfl)) (rfl)) (rfl)) (rfl)) (rfl)) (rfl)) (rfl)) (rfl), tg 104 rfl rfl, tg 31 rfl rfl, rfl, lt_s (lt_s (lt_s (lt_s (lt_s (lt_s (lt_s (lt_s (lt_s (lt_0) (rfl)) (rfl)) (rfl)) (rfl)) (rfl)) (rfl)) (rfl)) (rfl)) (rfl), fun _ => rfl⟩
set_option maxRecDepth 100000 in
theorem okU_4 : okU 4 := ⟨RX4, TX4, 6, tyX4, rfl, lt_s (lt_s (lt_s (lt_s (lt_s (lt_s (lt_0) (tg 238 rfl rfl)) (tg 240 rfl rfl)) (tg 242 rfl rfl)) (tg 244 rfl rfl)) (tg 246 rfl rfl)) (tg 248 rfl rfl), tyX4_ok, nmX4, lt_s (lt_s (lt_s (lt_s (lt_s (lt_s (lt_0) (rfl)) (rfl)) (rfl)) (rfl)) (rfl)) (rfl), lt_s (lt_s (lt_s (lt_s (lt_s (lt_s (lt_0) (rfl)) (rfl)) (rfl)) (rfl)) (rfl)) (rfl), tg 223 rfl rfl, tg 34 rfl rfl, rfl, lt_s (lt_s (lt_s (lt_s (lt_s (lt_s (lt_0) (rfl)) (rfl)) (rfl)) (rfl)) (rfl)) (rfl), fun _ => rfl⟩
set_option maxRecDepth 100000 in
theorem okU_5 : okU 5 := ⟨RX6, TX6, 6, tyX6, rfl, lt_s (lt_s (lt_s (lt_s (lt_s (lt_s (lt_0) (tg 280 rfl rfl)) (tg 282 rfl rfl)) (tg 284 rfl rfl)) (tg 286 rfl rfl)) (tg 288 rfl rfl)) (tg 290 rfl rfl), tyX6_ok, nmX6, lt_s (lt_s (lt_s (lt_s (lt_s (lt_s (lt_0) (rfl)) (rfl)) (rfl)) (rfl)) (rfl)) (rfl), lt_s (lt_s (lt_s (lt_s (lt_s (lt_s (lt_0) (rfl)) (rfl)) (rfl)) (rfl)) (rfl)) (rfl), tg 267 rfl rfl, tg 36 rfl rfl, rfl, lt_s (lt_s (lt_s (lt_s (lt_s (lt_s (lt_0) (rfl)) (rfl)) (rfl)) (rfl)) (rfl)) (rfl), fun _ => rfl⟩
set_option maxRecDepth 100000 in
theorem okU_6 : okU 6 := ⟨RX7, TX7, 2, tyX7, rfl, lt_s (lt_s (lt_0) (tg 261 rfl rfl)) (tg 263 rfl rfl), tyX7_ok, nmX7, lt_s (lt_s (lt_0) (rfl)) (rfl), lt_s (lt_s (lt_0) (rfl)) (rfl), tg 254 rfl rfl, tg 35 rfl rfl, rfl, lt_s (lt_s (lt_0) (rfl)) (rfl), fun _ => rfl⟩
set_option maxRecDepth 100000 in
theorem okU_7 : okU 7 := ⟨RX8, TX8, 10, tyX8, rfl, lt_s (lt_s (lt_s (lt_s (lt_s (lt_s (lt_s (lt_s (lt_s (lt_s (lt_0) (tg 303 rfl rfl)) (tg 305 rfl rfl)) (tg 307 rfl rfl)) (tg 309 rfl rfl)) (tg 311 rfl rfl)) (tg 313 rfl rfl)) (tg 315 rfl rfl)) (tg 317 rfl rfl)) (tg 319 rfl rfl)) (tg 321 rfl rfl), tyX8_ok, nmX8, lt_s (lt_s (lt_s (lt_s (lt_s (lt_s (lt_s (lt_s (lt_s (lt_s (lt_0) (rfl)) (rfl)) (rfl)) (rfl)) (rfl)) (rfl)) (rfl)) (rfl)) (rfl)) (rfl), lt_s (lt_s (lt_s (lt_s (lt_s (lt_s (lt_s (lt_s (lt_s (lt_s (lt_0) (rfl)) (rfl)) (rfl)) (rfl)) (rfl)) (rfl)) (rfl)) (rfl)) (rfl)) (rfl), tg 56 rfl rfl, tg 28 rfl rfl, rfl, lt_s (lt_s (lt_s (lt_s (lt_s (lt_s (lt_s (lt_s (lt_s (lt_s (lt_0) (rfl)) (rfl)) (rfl)) (rfl)) (rfl)) (rfl)) (rfl)) (rfl)) (rfl)) (rfl), fun _ => rfl⟩
theorem okU_all : ∀ c, c < 8 → okU c := lt_s (lt_s (lt_s (lt_s (lt_s (lt_s (lt_s (lt_s (lt_0) (okU_0)) (okU_1)) (okU_2)) (okU_3)) (okU_4)) (okU_5)) (okU_6)) (okU_7)
def okN (c : Nat) (e : Nat × Nat) : Prop := e.2 < 8 ∧ ∃ r, vwCl[e.2]? = some r ∧ Cond.classLink (cN c) e.1 r.1 ∈ TG
def eN (E : Nat) : String := ["java/lang/IllegalArgumentException", "java/lang/IndexOutOfBoundsException"].getD (E - 1) ""
def okE (c : Nat) (e : Nat × Nat) : Prop := (e.2 = 1 ∨ e.2 = 2) ∧ Cond.classLink (cN c) e.1 (eN e.2) ∈ TG
set_option maxRecDepth 100000 in
theorem okN_0 : ∀ e ∈ kN 0, okN 0 e := allm (⟨Nat.le_of_ble_eq_true rfl, _, rfl, tg 69 rfl rfl⟩ : okN 0 (38, 2)) <| allm (⟨Nat.le_of_ble_eq_true rfl, _, rfl, tg 103 rfl rfl⟩ : okN 0 (45, 3)) <| alln
set_option maxRecDepth 100000 in
theorem okE_0 : ∀ e ∈ kE 0, okE 0 e := alln
set_option maxRecDepth 100000 in
theorem okN_1 : ∀ e ∈ kN 1, okN 1 e := allm (⟨Nat.le_of_ble_eq_true rfl, _, rfl, tg 208 rfl rfl⟩ : okN 1 (9, 0)) <| alln
set_option maxRecDepth 100000 in
theorem okE_1 : ∀ e ∈ kE 1, okE 1 e := alln
set_option maxRecDepth 100000 in
theorem okN_2 : ∀ e ∈ kN 2, okN 2 e := alln
set_option maxRecDepth 100000 in
theorem okE_2 : ∀ e ∈ kE 2, okE 2 e := alln
set_option maxRecDepth 100000 in
theorem okN_3 : ∀ e ∈ kN 3, okN 3 e := alln
set_option maxRecDepth 100000 in
theorem okE_3 : ∀ e ∈ kE 3, okE 3 e := alln
set_option maxRecDepth 100000 in
theorem okN_4 : ∀ e ∈ kN 4, okN 4 e := alln
set_option maxRecDepth 100000 in
theorem okE_4 : ∀ e ∈ kE 4, okE 4 e := alln
set_option maxRecDepth 100000 in
theorem okN_5 : ∀ e ∈ kN 5, okN 5 e := alln
set_option maxRecDepth 100000 in
theorem okE_5 : ∀ e ∈ kE 5, okE 5 e := alln
set_option maxRecDepth 100000 in
theorem okN_6 : ∀ e ∈ kN 6, okN 6 e := alln
set_option maxRecDepth 100000 in
theorem okE_6 : ∀ e ∈ kE 6, okE 6 e := alln
set_option maxRecDepth 100000 in
theorem okN_7 : ∀ e ∈ kN 7, okN 7 e := alln
set_option maxRecDepth 100000 in
theorem okE_7 : ∀ e ∈ kE 7, okE 7 e := alln
set_option maxRecDepth 100000 in
theorem okN_8 : ∀ e ∈ kN 8, okN 8 e := allm (⟨Nat.le_of_ble_eq_true rfl, _, rfl, tg 63 rfl rfl⟩ : okN 8 (9, 0)) <| allm (⟨Nat.le_of_ble_eq_true rfl, _, rfl, tg 202 rfl rfl⟩ : okN 8 (19, 1)) <| allm (⟨Nat.le_of_ble_eq_true rfl, _, rfl, tg 222 rfl rfl⟩ : okN 8 (34, 4)) <| allm (⟨Nat.le_of_ble_eq_true rfl, _, rfl, tg 253 rfl rfl⟩ : okN 8 (41, 6)) <| allm (⟨Nat.le_of_ble_eq_true rfl, _, rfl, tg 266 rfl rfl⟩ : okN 8 (48, 5)) <| alln
set_option maxRecDepth 100000 in
theorem okE_8 : ∀ e ∈ kE 8, okE 8 e := allm (⟨Or.inl rfl, tg 819 rfl rfl⟩ : okE 8 (140, 1)) <| allm (⟨Or.inr rfl, tg 906 rfl rfl⟩ : okE 8 (379, 2)) <| alln
set_option maxRecDepth 100000 in
theorem okN_9 : ∀ e ∈ kN 9, okN 9 e := alln
set_option maxRecDepth 100000 in
theorem okE_9 : ∀ e ∈ kE 9, okE 9 e := alln
set_option maxRecDepth 100000 in
theorem okN_10 : ∀ e ∈ kN 10, okN 10 e := alln
set_option maxRecDepth 100000 in
theorem okE_10 : ∀ e ∈ kE 10, okE 10 e := alln
set_option maxRecDepth 100000 in
theorem okN_11 : ∀ e ∈ kN 11, okN 11 e := alln
set_option maxRecDepth 100000 in
theorem okE_11 : ∀ e ∈ kE 11, okE 11 e := alln
set_option maxRecDepth 100000 in
theorem okN_12 : ∀ e ∈ kN 12, okN 12 e := alln
set_option maxRecDepth 100000 in
theorem okE_12 : ∀ e ∈ kE 12, okE 12 e := alln
set_option maxRecDepth 100000 in
theorem okN_13 : ∀ e ∈ kN 13, okN 13 e := allm (⟨Nat.le_of_ble_eq_true rfl, _, rfl, tg 55 rfl rfl⟩ : okN 13 (25, 7)) <| alln
set_option maxRecDepth 100000 in
theorem okE_13 : ∀ e ∈ kE 13, okE 13 e := alln
theorem okN_all : ∀ c, c < 14 → ∀ e ∈ kN c, okN c e := lt_s (lt_s (lt_s (lt_s (lt_s (lt_s (lt_s (lt_s (lt_s (lt_s (lt_s (lt_s (lt_s (lt_s (lt_0) (okN_0)) (okN_1)) (okN_2)) (okN_3)) (okN_4)) (okN_5)) (okN_6)) (okN_7)) (okN_8)) (okN_9)) (okN_10)) (okN_11)) (okN_12)) (okN_13)
theorem okE_all : ∀ c, c < 14 → ∀ e ∈ kE c, okE c e := lt_s (lt_s (lt_s (lt_s (lt_s (lt_s (lt_s (lt_s (lt_s (lt_s (lt_s (lt_s (lt_s (lt_s (lt_0) (okE_0)) (okE_1)) (okE_2)) (okE_3)) (okE_4)) (okE_5)) (okE_6)) (okE_7)) (okE_8)) (okE_9)) (okE_10)) (okE_11)) (okE_12)) (okE_13)
set_option maxRecDepth 100000 in
theorem okA_int : Cond.arrayClass .int ∈ TG := tg 101 rfl rfl
set_option maxRecDepth 100000 in
theorem okA_long : Cond.arrayClass .long ∈ TG := tg 102 rfl rfl
set_option maxRecDepth 100000 in
theorem okA_char : Cond.arrayClass .char ∈ TG := tg 252 rfl rfl
set_option maxRecDepth 100000 in
theorem okA_boolean : Cond.arrayClass .boolean ∈ TG := tg 251 rfl rfl
set_option maxRecDepth 100000 in
theorem okA_byte : Cond.arrayClass .byte ∈ TG := tg 527 rfl rfl
set_option maxRecDepth 100000 in
theorem okA_over : Cond.arrayOver (.object "PinBarrel$Box") ∈ lw_tbl := List.mem_of_getElem? (i := 209) rfl
set_option maxRecDepth 100000 in
theorem mC_lt : ∀ M, M < pNM → mC M < 14 := fun M h => (by decide +kernel : ∀ M, M < pNM → mC M < 14) M h
set_option maxRecDepth 100000 in
theorem okJ_oi : Cond.instanceMethod Lib.objectInit ∈ TG := tg 61 rfl rfl
set_option maxRecDepth 100000 in
theorem okJ_mx : Cond.static Lib.Math.max.name ∈ TG := tg 588 rfl rfl
set_option maxRecDepth 100000 in
theorem okJ_mn : Cond.static Lib.Math.min.name ∈ TG := tg 420 rfl rfl
set_option maxRecDepth 100000 in
theorem okJ_ac : Cond.static arraycopyName ∈ TG := tg 511 rfl rfl
set_option maxRecDepth 100000 in
theorem okJ_an : Cond.native arraycopyName ∈ TG := tg 512 rfl rfl
set_option maxRecDepth 100000 in
theorem okJ_ab : Cond.static Lib.Math.abs.name ∈ TG := tg 536 rfl rfl
set_option maxRecDepth 100000 in
theorem okJ_im : Cond.initialized "java/lang/Math" ∈ TG := tg 37 rfl rfl
set_option maxRecDepth 100000 in
theorem okJ_is : Cond.initialized "java/lang/System" ∈ TG := tg 43 rfl rfl
set_option maxRecDepth 100000 in
theorem okJ_ci : Cond.code Lib.objectInit ⟨#[0xb1]⟩ 1 none ∈ TG := tg 62 rfl rfl
set_option maxRecDepth 100000 in
theorem okJ_cx : Cond.code Lib.Math.max.name Lib.Math.max.code 2 (some .int) ∈ TG := tg 589 rfl rfl
set_option maxRecDepth 100000 in
theorem okJ_ca : Cond.code Lib.Math.abs.name Lib.Math.abs.code 1 (some .int) ∈ TG := tg 537 rfl rfl
set_option maxRecDepth 100000 in
theorem okJ_cn : Cond.code Lib.Math.min.name Lib.Math.min.code 2 (some .int) ∈ TG := tg 421 rfl rfl
