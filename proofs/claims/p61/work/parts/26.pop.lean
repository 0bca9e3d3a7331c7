/-! COUNTS OF BITS: the machine's way to count them -/
def fs (k : Nat) : (Nat → Nat) → Nat → Nat
  | _, 0 => 0
  | a, n + 1 => a 0 + 2 ^ k * fs k (fun j => a (j + 1)) n
def sN : (Nat → Nat) → Nat → Nat
  | _, 0 => 0
  | a, n + 1 => sN a n + a n
theorem fs_s (k : Nat) (a : Nat → Nat) (n : Nat) : fs k a (n + 1) = a 0 + 2 ^ k * fs k (fun j => a (j + 1)) n := rfl
theorem fs_congr {k : Nat} : ∀ {n : Nat} {a b : Nat → Nat}, (∀ j, j < n → a j = b j) → fs k a n = fs k b n := by
  intro n
  induction n with
  | zero => intro a b _; rfl
  | succ n ih => intro a b h; rw [fs_s, fs_s, h 0 (by omega), ih (fun j hj => h (j + 1) (by omega))]
theorem fs_add (k : Nat) : ∀ (n : Nat) (a b : Nat → Nat), fs k a n + fs k b n = fs k (fun j => a j + b j) n := by
  intro n
  induction n with
  | zero => intro a b; rfl
  | succ n ih =>
    intro a b
    rw [fs_s, fs_s, fs_s, ← ih, Nat.mul_add]
    omega
theorem fs_pad (k : Nat) : ∀ (n : Nat) (a : Nat → Nat), a n = 0 → fs k a (n + 1) = fs k a n := by
  intro n
  induction n with
  | zero =>
    intro a h
    show a 0 + 2 ^ k * 0 = 0
    rw [h]; rfl
  | succ n ih =>
    intro a h
    rw [fs_s, ih (fun j => a (j + 1)) h]
    rfl
theorem fs_div {k n : Nat} {a : Nat → Nat} (h : a 0 < 2 ^ k) : fs k a (n + 1) / 2 ^ k = fs k (fun j => a (j + 1)) n := by
  rw [fs_s, Nat.add_mul_div_left _ _ (Nat.pow_pos (by decide)), Nat.div_eq_of_lt h, Nat.zero_add]
theorem fs_pair (k : Nat) : ∀ (n : Nat) (a : Nat → Nat), fs k a (2 * n) = fs (2 * k) (fun j => a (2 * j) + 2 ^ k * a (2 * j + 1)) n := by
  intro n
  induction n with
  | zero => intro a; rfl
  | succ n ih =>
    intro a
    rw [show 2 * (n + 1) = 2 * n + 1 + 1 from by omega, fs_s, fs_s, fs_s, ih, show 2 ^ (2 * k) = 2 ^ k * 2 ^ k from by rw [← Nat.pow_add]; congr 1; omega, Nat.mul_add, ← Nat.mul_assoc, Nat.add_assoc]
    rfl
theorem and_split {p u v : Nat} (x y : Nat) (hu : u < 2 ^ p) (hv : v < 2 ^ p) : (u + 2 ^ p * x) &&& (v + 2 ^ p * y) = (u &&& v) + 2 ^ p * (x &&& y) := by
  have h1 : ((u + 2 ^ p * x) &&& (v + 2 ^ p * y)) % 2 ^ p = u &&& v := by
    rw [Nat.and_mod_two_pow, Nat.add_mul_mod_self_left, Nat.add_mul_mod_self_left, Nat.mod_eq_of_lt hu, Nat.mod_eq_of_lt hv]
  have h2 : ((u + 2 ^ p * x) &&& (v + 2 ^ p * y)) / 2 ^ p = x &&& y := by
    rw [Nat.and_div_two_pow, Nat.add_mul_div_left _ _ (Nat.pow_pos (by decide)), Nat.add_mul_div_left _ _ (Nat.pow_pos (by decide)), Nat.div_eq_of_lt hu, Nat.div_eq_of_lt hv, Nat.zero_add, Nat.zero_add]
  rw [← Nat.mod_add_div ((u + 2 ^ p * x) &&& (v + 2 ^ p * y)) (2 ^ p), h1, h2]
theorem fs_mask (k : Nat) : ∀ (n : Nat) (a : Nat → Nat), (∀ j, j < 2 * n → a j < 2 ^ k) → fs k a (2 * n) &&& fs (2 * k) (fun _ => 2 ^ k - 1) n = fs (2 * k) (fun j => a (2 * j)) n := by
  intro n
  induction n with
  | zero => intro a _; show (0 : Nat) &&& 0 = 0; decide
  | succ n ih =>
    intro a h
    have hk : 0 < 2 ^ k := Nat.pow_pos (by decide)
    have e2 : 2 ^ (2 * k) = 2 ^ k * 2 ^ k := by rw [← Nat.pow_add]; congr 1; omega
    have h0 := h 0 (by omega)
    have h1 := h 1 (by omega)
    have hu : a 0 + 2 ^ k * a 1 < 2 ^ (2 * k) := by
      rw [e2]
      have : 2 ^ k * a 1 + 2 ^ k ≤ 2 ^ k * 2 ^ k := by
        rw [← Nat.mul_succ]
        exact Nat.mul_le_mul_left _ h1
      omega
    have hv : 2 ^ k - 1 < 2 ^ (2 * k) := by
      rw [e2]
      have : 2 ^ k * 1 ≤ 2 ^ k * 2 ^ k := Nat.mul_le_mul_left _ hk
      omega
    rw [show 2 * (n + 1) = 2 * n + 1 + 1 from by omega, fs_s, fs_s, fs_s, fs_s, Nat.mul_add, ← Nat.mul_assoc, ← e2, ← Nat.add_assoc]
    show (a 0 + 2 ^ k * a 1 + 2 ^ (2 * k) * fs k (fun j => a (j + 1 + 1)) (2 * n)) &&& (2 ^ k - 1 + 2 ^ (2 * k) * fs (2 * k) (fun _ => 2 ^ k - 1) n) = _
    rw [and_split _ _ hu hv, ih (fun j => a (j + 1 + 1)) (fun j hj => h _ (by omega)), Nat.and_two_pow_sub_one_eq_mod, Nat.add_mul_mod_self_left, Nat.mod_eq_of_lt h0]
    rfl
theorem fs_bits : ∀ (n X : Nat), X < 2 ^ n → X = fs 1 (fun j => (X.testBit j).toNat) n := by
  intro n
  induction n with
  | zero => intro X h; have : X = 0 := by omega
            exact this
  | succ n ih =>
    intro X h
    have h2 := ih (X / 2) (by rw [Nat.pow_succ] at h; omega)
    rw [fs_s]
    have e : fs 1 (fun j => (X.testBit (j + 1)).toNat) n = X / 2 := by
      rw [h2]
      refine fs_congr (fun j _ => ?_)
      rw [Nat.testBit_succ]
    show X = (X.testBit 0).toNat + 2 ^ 1 * fs 1 (fun j => (X.testBit (j + 1)).toNat) n
    rw [e, Nat.testBit_zero]
    by_cases q : X % 2 = 1
    · rw [decide_eq_true q]; show X = 1 + 2 ^ 1 * (X / 2); omega
    · rw [decide_eq_false q]; show X = 0 + 2 ^ 1 * (X / 2); omega
theorem sN_s (a : Nat → Nat) (n : Nat) : sN a (n + 1) = sN a n + a n := rfl
theorem sN_pair (a : Nat → Nat) (n : Nat) : sN (fun j => a (2 * j) + a (2 * j + 1)) n = sN a (2 * n) := by
  induction n with
  | zero => rfl
  | succ n ih => rw [sN_s, ih, show 2 * (n + 1) = 2 * n + 1 + 1 from by omega, sN_s, sN_s]; omega
theorem sN_cnt (P : Nat → Bool) (n : Nat) : sN (fun j => (P j).toNat) n = cnt P n := by
  induction n with
  | zero => rfl
  | succ n ih =>
    rw [sN_s, cnt_s, ih]
    cases P n <;> rfl
/-- the whole count over numbers -/
theorem pop64 {X : Nat} (h : X < 2 ^ 64) {A B C D E F : Nat} (hA : A = X - ((X / 2) &&& 6148914691236517205)) (hB : B = (A &&& 3689348814741910323) + ((A / 4) &&& 3689348814741910323)) (hC : C = (B + B / 16) &&& 1085102592571150095) (hD : D = C + C / 256) (hE : E = D + D / 65536) (hF : F = E + E / 4294967296) : ((X / 2) &&& 6148914691236517205) ≤ X ∧ A < 2 ^ 64 ∧ B < 2 ^ 63 ∧ B + B / 16 < 2 ^ 64 ∧ D < 2 ^ 62 ∧ E < 2 ^ 63 ∧ F < 2 ^ 64 ∧ F % 128 = cnt (fun j => X.testBit j) 64 := by
  have ht : ∀ j, (X.testBit j).toNat ≤ 1 := fun j => by cases X.testBit j <;> decide
  have eX : X = fs 1 (fun j => (X.testBit j).toNat) 64 := fs_bits 64 X h
  generalize hT : (fun j => (X.testBit j).toNat) = t at eX
  have ht' : ∀ j, t j ≤ 1 := fun j => by rw [← hT]; exact ht j
  have hz : t 64 = 0 := by
    rw [← hT]
    show (X.testBit 64).toNat = 0
    rw [Nat.testBit_lt_two_pow h]; rfl
  have hp : cnt (fun j => X.testBit j) 64 = sN t 64 := by rw [← hT]; exact (sN_cnt _ _).symm
  rw [hp]
  have m5 : (6148914691236517205 : Nat) = fs 2 (fun _ => 2 ^ 1 - 1) 32 := by decide +kernel
  have m3 : (3689348814741910323 : Nat) = fs 4 (fun _ => 2 ^ 2 - 1) 16 := by decide +kernel
  have m0 : (1085102592571150095 : Nat) = fs 8 (fun _ => 2 ^ 4 - 1) 8 := by decide +kernel
  have e1 : (X / 2) &&& 6148914691236517205 = fs 2 (fun j => t (2 * j + 1)) 32 := by
    have : X / 2 = fs 1 (fun j => t (j + 1)) (2 * 32) := by
      rw [eX, show (2 : Nat) = 2 ^ 1 from rfl, fs_div (by have := ht' 0; omega)]
      exact (fs_pad 1 63 (fun j => t (j + 1)) hz).symm
    rw [this, m5]
    exact fs_mask 1 32 _ (fun j _ => by have := ht' (j + 1); omega)
  have e2 : X = fs 2 (fun j => t (2 * j) + t (2 * j + 1)) 32 + fs 2 (fun j => t (2 * j + 1)) 32 := by
    rw [fs_add, eX]
    rw [show (64 : Nat) = 2 * 32 from rfl, fs_pair 1 32 t]
    exact fs_congr (fun j _ => by omega)
  have eA : A = fs 2 (fun j => t (2 * j) + t (2 * j + 1)) 32 := by rw [hA, e1]; omega
  generalize ha : (fun j => t (2 * j) + t (2 * j + 1)) = a at eA e2
  have ha' : ∀ j, a j ≤ 2 := fun j => by rw [← ha]; have := ht' (2 * j); have := ht' (2 * j + 1); show t (2 * j) + t (2 * j + 1) ≤ 2; omega
  have sa : sN a 32 = sN t 64 := by rw [← ha]; exact sN_pair t 32
  have hz2 : a 32 = 0 := by
    have h1 : ∀ j, 64 ≤ j → t j = 0 := fun j hj => by
      rw [← hT]
      show (X.testBit j).toNat = 0
      rw [Nat.testBit_lt_two_pow (Nat.lt_of_lt_of_le h (Nat.pow_le_pow_right (by decide) hj))]; rfl
    rw [← ha]
    show t 64 + t 65 = 0
    rw [h1 64 (by decide), h1 65 (by decide)]
  have eB : B = fs 4 (fun j => a (2 * j) + a (2 * j + 1)) 16 := by
    have q1 : A &&& 3689348814741910323 = fs 4 (fun j => a (2 * j)) 16 := by
      rw [eA, m3]
      exact fs_mask 2 16 a (fun j _ => by have := ha' j; omega)
    have q2 : (A / 4) &&& 3689348814741910323 = fs 4 (fun j => a (2 * j + 1)) 16 := by
      have : A / 4 = fs 2 (fun j => a (j + 1)) (2 * 16) := by
        rw [eA, show (4 : Nat) = 2 ^ 2 from rfl, fs_div (by have := ha' 0; omega)]
        exact (fs_pad 2 31 (fun j => a (j + 1)) hz2).symm
      rw [this, m3]
      exact fs_mask 2 16 _ (fun j _ => by have := ha' (j + 1); omega)
    rw [hB, q1, q2, fs_add]
  have hz3 : ∀ j, 32 ≤ j → a j = 0 := by
    intro j hj
    have h1 : ∀ j, 64 ≤ j → t j = 0 := fun j hj => by
      rw [← hT]
      show (X.testBit j).toNat = 0
      rw [Nat.testBit_lt_two_pow (Nat.lt_of_lt_of_le h (Nat.pow_le_pow_right (by decide) hj))]; rfl
    rw [← ha]
    show t (2 * j) + t (2 * j + 1) = 0
    rw [h1 _ (by omega), h1 _ (by omega)]
  generalize hb : (fun j => a (2 * j) + a (2 * j + 1)) = b at eB
  have hb' : ∀ j, b j ≤ 4 := fun j => by rw [← hb]; have := ha' (2 * j); have := ha' (2 * j + 1); show a (2 * j) + a (2 * j + 1) ≤ 4; omega
  have sb : sN b 16 = sN a 32 := by rw [← hb]; exact sN_pair a 16
  have hz4 : b 16 = 0 := by rw [← hb]; show a 32 + a 33 = 0; rw [hz3 32 (by decide), hz3 33 (by decide)]
  have eBB : B + B / 16 = fs 4 (fun j => b j + b (j + 1)) (2 * 8) := by
    have : B / 16 = fs 4 (fun j => b (j + 1)) 16 := by
      rw [eB, show (16 : Nat) = 2 ^ 4 from rfl]
      show fs 4 b (15 + 1) / 2 ^ 4 = _
      rw [fs_div (by have := hb' 0; omega)]
      exact (fs_pad 4 15 (fun j => b (j + 1)) hz4).symm
    rw [this, eB, fs_add]
  have eC : C = fs 8 (fun j => b (2 * j) + b (2 * j + 1)) 8 := by
    rw [hC, eBB, m0]
    exact fs_mask 4 8 _ (fun j _ => by have := hb' j; have := hb' (j + 1); omega)
  generalize hc : (fun j => b (2 * j) + b (2 * j + 1)) = c at eC
  have hc' : ∀ j, c j ≤ 8 := fun j => by rw [← hc]; have := hb' (2 * j); have := hb' (2 * j + 1); show b (2 * j) + b (2 * j + 1) ≤ 8; omega
  have sc : sN c 8 = sN b 16 := by rw [← hc]; exact sN_pair b 8
  have eC2 : C = c 0 + 256 * (c 1 + 256 * (c 2 + 256 * (c 3 + 256 * (c 4 + 256 * (c 5 + 256 * (c 6 + 256 * (c 7 + 256 * 0))))))) := eC
  have sc2 : sN c 8 = 0 + c 0 + c 1 + c 2 + c 3 + c 4 + c 5 + c 6 + c 7 := rfl
  have c0 := hc' 0
  have c1 := hc' 1
  have c2 := hc' 2
  have c3 := hc' 3
  have c4 := hc' 4
  have c5 := hc' 5
  have c6 := hc' 6
  have c7 := hc' 7
  have l1 : (X / 2) &&& 6148914691236517205 ≤ X / 2 := Nat.and_le_left
  have l2 : A &&& 3689348814741910323 ≤ 3689348814741910323 := Nat.and_le_right
  have l3 : (A / 4) &&& 3689348814741910323 ≤ 3689348814741910323 := Nat.and_le_right
  refine ⟨by omega, by omega, by omega, by omega, by omega, by omega, by omega, ?_⟩
  rw [← sa, ← sb, ← sc, sc2]
  generalize c 0 = v0 at *
  generalize c 1 = v1 at *
  generalize c 2 = v2 at *
  generalize c 3 = v3 at *
  generalize c 4 = v4 at *
  generalize c 5 = v5 at *
  generalize c 6 = v6 at *
  generalize c 7 = v7 at *
  have d1 : C / 256 = v1 + 256 * (v2 + 256 * (v3 + 256 * (v4 + 256 * (v5 + 256 * (v6 + 256 * v7))))) := by omega
  have d2 : D = (v0 + v1) + 256 * ((v1 + v2) + 256 * ((v2 + v3) + 256 * ((v3 + v4) + 256 * ((v4 + v5) + 256 * ((v5 + v6) + 256 * ((v6 + v7) + 256 * v7)))))) := by omega
  have d3 : D / 65536 = (v2 + v3) + 256 * ((v3 + v4) + 256 * ((v4 + v5) + 256 * ((v5 + v6) + 256 * ((v6 + v7) + 256 * v7)))) := by omega
  have d4 : E = (v0 + v1 + v2 + v3) + 256 * ((v1 + v2 + v3 + v4) + 256 * ((v2 + v3 + v4 + v5) + 256 * ((v3 + v4 + v5 + v6) + 256 * ((v4 + v5 + v6 + v7) + 256 * ((v5 + v6 + v7) + 256 * ((v6 + v7) + 256 * v7)))))) := by omega
  have d5 : E / 4294967296 = (v4 + v5 + v6 + v7) + 256 * ((v5 + v6 + v7) + 256 * ((v6 + v7) + 256 * v7)) := by omega
  omega
