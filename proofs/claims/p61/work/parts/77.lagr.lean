/-! THE LAW's METHODS: agrees -/
/-! 224: PinBarrelLaw.agrees(LPinBarrel;)Z -/
theorem b224 : mB 224 = cL_agrees := rfl
theorem r224 : mR 224 = (some .boolean) := rfl
theorem d224_0 : decode cL_agrees 0 = .ok (.iconst 0, 1) := by decide +kernel
theorem d224_1 : decode cL_agrees 1 = .ok (.istore_n 1, 1) := by decide +kernel
theorem d224_2 : decode cL_agrees 2 = .ok (.iconst 0, 1) := by decide +kernel
theorem d224_3 : decode cL_agrees 3 = .ok (.istore_n 2, 1) := by decide +kernel
theorem d224_4 : decode cL_agrees 4 = .ok (.iload_n 2, 1) := by decide +kernel
theorem d224_5 : decode cL_agrees 5 = .ok (.aload_n 0, 1) := by decide +kernel
theorem d224_6 : decode cL_agrees 6 = .ok (.iconst 4, 1) := by decide +kernel
theorem d224_7 : decode cL_agrees 7 = .ok (.invokevirtual 79, 3) := by decide +kernel
theorem d224_10 : decode cL_agrees 10 = .ok (.if_icmp .ge 18, 3) := by decide +kernel
theorem d224_13 : decode cL_agrees 13 = .ok (.iload_n 1, 1) := by decide +kernel
theorem d224_14 : decode cL_agrees 14 = .ok (.aload_n 0, 1) := by decide +kernel
theorem d224_15 : decode cL_agrees 15 = .ok (.iload_n 2, 1) := by decide +kernel
theorem d224_16 : decode cL_agrees 16 = .ok (.iconst 3, 1) := by decide +kernel
theorem d224_17 : decode cL_agrees 17 = .ok (.invokevirtual 141, 3) := by decide +kernel
theorem d224_20 : decode cL_agrees 20 = .ok (.iadd, 1) := by decide +kernel
theorem d224_21 : decode cL_agrees 21 = .ok (.istore_n 1, 1) := by decide +kernel
theorem d224_22 : decode cL_agrees 22 = .ok (.iinc 2 1, 3) := by decide +kernel
theorem d224_25 : decode cL_agrees 25 = .ok (.goto (-21), 3) := by decide +kernel
theorem d224_28 : decode cL_agrees 28 = .ok (.iload_n 1, 1) := by decide +kernel
theorem d224_29 : decode cL_agrees 29 = .ok (.aload_n 0, 1) := by decide +kernel
theorem d224_30 : decode cL_agrees 30 = .ok (.bipush 6, 2) := by decide +kernel
theorem d224_32 : decode cL_agrees 32 = .ok (.invokevirtual 79, 3) := by decide +kernel
theorem d224_35 : decode cL_agrees 35 = .ok (.if_icmp .ne 10, 3) := by decide +kernel
theorem d224_38 : decode cL_agrees 38 = .ok (.aload_n 0, 1) := by decide +kernel
theorem d224_39 : decode cL_agrees 39 = .ok (.invokestatic 230, 3) := by decide +kernel
theorem d224_42 : decode cL_agrees 42 = .ok (.ifCond .ne 5, 3) := by decide +kernel
theorem d224_45 : decode cL_agrees 45 = .ok (.iconst 0, 1) := by decide +kernel
theorem d224_46 : decode cL_agrees 46 = .ok (.ireturn, 1) := by decide +kernel
theorem d224_47 : decode cL_agrees 47 = .ok (.iconst 0, 1) := by decide +kernel
theorem d224_48 : decode cL_agrees 48 = .ok (.istore_n 2, 1) := by decide +kernel
theorem d224_49 : decode cL_agrees 49 = .ok (.iload_n 2, 1) := by decide +kernel
theorem d224_50 : decode cL_agrees 50 = .ok (.aload_n 0, 1) := by decide +kernel
theorem d224_51 : decode cL_agrees 51 = .ok (.iconst 1, 1) := by decide +kernel
theorem d224_52 : decode cL_agrees 52 = .ok (.invokevirtual 79, 3) := by decide +kernel
theorem d224_55 : decode cL_agrees 55 = .ok (.if_icmp .ge 27, 3) := by decide +kernel
theorem d224_58 : decode cL_agrees 58 = .ok (.aload_n 0, 1) := by decide +kernel
theorem d224_59 : decode cL_agrees 59 = .ok (.iload_n 2, 1) := by decide +kernel
theorem d224_60 : decode cL_agrees 60 = .ok (.invokestatic 234, 3) := by decide +kernel
theorem d224_63 : decode cL_agrees 63 = .ok (.ifCond .eq 11, 3) := by decide +kernel
theorem d224_66 : decode cL_agrees 66 = .ok (.aload_n 0, 1) := by decide +kernel
theorem d224_67 : decode cL_agrees 67 = .ok (.iload_n 2, 1) := by decide +kernel
theorem d224_68 : decode cL_agrees 68 = .ok (.invokestatic 238, 3) := by decide +kernel
theorem d224_71 : decode cL_agrees 71 = .ok (.ifCond .ne 5, 3) := by decide +kernel
theorem d224_76 : decode cL_agrees 76 = .ok (.iinc 2 1, 3) := by decide +kernel
theorem d224_79 : decode cL_agrees 79 = .ok (.goto (-30), 3) := by decide +kernel
theorem d224_82 : decode cL_agrees 82 = .ok (.iconst 1, 1) := by decide +kernel
theorem d224_83 : decode cL_agrees 83 = .ok (.ireturn, 1) := by decide +kernel
theorem v224_0 {w : PW} {Q : PO → PW → Prop} {m : Row} {H : Nat → Row} {n : Nat} {k0 : Option Row} {sn : Nat} {sf : Nat → Int32} (hl : LW w m H n k0 sn sf)  (h : pX 224 4 [some (.ref 0), some (iv 0), some (iv 0)] [] w Q) : pX 224 0 [some (.ref 0), none, none] [] w Q :=
  w_f b224 d224_0 rfl rfl rfl <| w_f b224 d224_1 rfl rfl rfl <| w_f b224 d224_2 rfl rfl rfl <| w_f b224 d224_3 rfl rfl rfl <| h
theorem e224 {w : PW} {Q : PO → PW → Prop} {m : Row} {H : Nat → Row} {n : Nat} {k0 : Option Row} {sn : Nat} {sf : Nat → Int32} (hl : LW w m H n k0 sn sf)  (h : pX 224 4 [some (.ref 0), some (iv 0), some (iv 0)] [] w Q) : pC 224 [.ref 0] w Q :=
  (pC_in (Nat.le_of_ble_eq_true rfl) rfl Q).mpr (v224_0 hl  h)
theorem v224_4 {w : PW} {Q : PO → PW → Prop} {m : Row} {H : Nat → Row} {n : Nat} {k0 : Option Row} {sn : Nat} {sf : Nat → Int32} {x1 : Int} {x2 : Int} (hl : LW w m H n k0 sn sf) (hx1 : bd x1) (hx2 : bd x2) (h : ∀ w1 : PW, LW w1 m H n k0 sn sf → bd (m 4) → ((m 4) ≤ x2 → ∀ w3 : PW, LW w3 m H n k0 sn sf → bd (sAll m) → (x1 ≠ (sAll m) → Q (.inl (some (iv 0))) w3) ∧ (x1 = (sAll m) → ∀ w5 : PW, LW w5 m H n k0 sn sf → bd 1 → pX 224 49 [some (.ref 0), some (iv x1), some (iv 0)] [] w5 Q)) ∧ (x2 < (m 4) → (0 ≤ x2 ∧ x2 < m 4) ∧ ∀ w6 : PW, LW w6 m H n k0 sn sf → bd (sTooth m (x2).toNat) → pX 224 4 [some (.ref 0), some (iv (x1 + (sTooth m (x2).toNat))), some (iv (x2 + 1))] [] w6 Q)) : pX 224 4 [some (.ref 0), some (iv x1), some (iv x2)] [] w Q :=
  w_f b224 d224_4 rfl rfl rfl <| w_f b224 d224_5 rfl rfl rfl <| w_f b224 d224_6 rfl rfl rfl <| w_cc b224 d224_7 rfl (pcl_v (n := 1) rfl rfl rfl (by decide +kernel) (sh_isOb hl.sh (tlt 0 rfl) tbC_0) rfl rfl) rfl <| q65_4 hl ⟨by decide, by decide⟩ (fun w1 lw1 bw1 => w_icge b224 d224_10 rfl rfl (by decide +kernel) hx2 bw1 (fun c2 => w_f b224 d224_28 rfl rfl rfl <| w_f b224 d224_29 rfl rfl rfl <| w_f b224 d224_30 rfl rfl rfl <| w_cc b224 d224_32 rfl (pcl_v (n := 1) rfl rfl rfl (by decide +kernel) (sh_isOb lw1.sh (tlt 0 rfl) tbC_0) rfl rfl) rfl <| q65_6 lw1 ⟨by decide, by decide⟩ (fun w3 lw3 bw3 => w_icne b224 d224_35 rfl rfl (by decide +kernel) hx1 bw3 (fun c4 => w_f b224 d224_45 rfl rfl rfl <| w_rz b224 d224_46 r224 (by decide) ((((h w1 lw1 bw1).1 c2) w3 lw3 bw3).1 c4)) (fun c4 => w_f b224 d224_38 rfl rfl rfl <| w_cc b224 d224_39 rfl (pcl_s1 (n := 1) rfl rfl rfl (by decide +kernel) rfl rfl) rfl <| q221 lw3 (fun w5 lw5 bw5 => w_ifne b224 d224_42 rfl rfl (by decide +kernel) ⟨by decide, by decide⟩ (fun _ => w_f b224 d224_47 rfl rfl rfl <| w_f b224 d224_48 rfl rfl rfl <| (((((h w1 lw1 bw1).1 c2) w3 lw3 bw3).2 c4) w5 lw5 bw5)) (fun c => absurd c (by decide)))))) (fun c2 => w_f b224 d224_13 rfl rfl rfl <| w_f b224 d224_14 rfl rfl rfl <| w_f b224 d224_15 rfl rfl rfl <| w_f b224 d224_16 rfl rfl rfl <| w_cc b224 d224_17 rfl (pcl_v (n := 2) rfl rfl rfl (by decide +kernel) (sh_isOb lw1.sh (tlt 0 rfl) tbC_0) rfl rfl) rfl <| q69_3 lw1 hx2 ⟨by decide, by decide⟩ ((h w1 lw1 bw1).2 c2).1 (fun w6 lw6 bw6 => w_f b224 d224_20 rfl (pf_iadd x1 (sTooth m (x2).toNat)) rfl <| w_f b224 d224_21 rfl rfl rfl <| w_f b224 d224_22 rfl (pf_iinc rfl rfl) rfl <| w_j b224 d224_25 rfl (by decide +kernel) <| (((h w1 lw1 bw1).2 c2).2 w6 lw6 bw6))))
theorem v224_49 {w : PW} {Q : PO → PW → Prop} {m : Row} {H : Nat → Row} {n : Nat} {k0 : Option Row} {sn : Nat} {sf : Nat → Int32} {x1 : Int} {x2 : Int} (hl : LW w m H n k0 sn sf) (hx1 : bd x1) (hx2 : bd x2) (h : ∀ w1 : PW, LW w1 m H n k0 sn sf → bd (m 1) → ((m 1) ≤ x2 → Q (.inl (some (iv 1))) w1) ∧ (x2 < (m 1) → (0 ≤ x2 ∧ x2 < m 1) ∧ ∀ w3 : PW, LW w3 m H n k0 sn sf → bd 1 → (0 ≤ x2 ∧ x2 < m 1) ∧ ∀ w4 : PW, LW w4 m (lyH H n m x2) 0 (some m) sn sf → bd 1 → pX 224 49 [some (.ref 0), some (iv x1), some (iv (x2 + 1))] [] w4 Q)) : pX 224 49 [some (.ref 0), some (iv x1), some (iv x2)] [] w Q :=
  w_f b224 d224_49 rfl rfl rfl <| w_f b224 d224_50 rfl rfl rfl <| w_f b224 d224_51 rfl rfl rfl <| w_cc b224 d224_52 rfl (pcl_v (n := 1) rfl rfl rfl (by decide +kernel) (sh_isOb hl.sh (tlt 0 rfl) tbC_0) rfl rfl) rfl <| q65_1 hl ⟨by decide, by decide⟩ (fun w1 lw1 bw1 => w_icge b224 d224_55 rfl rfl (by decide +kernel) hx2 bw1 (fun c2 => w_f b224 d224_82 rfl rfl rfl <| w_rz b224 d224_83 r224 (by decide) ((h w1 lw1 bw1).1 c2)) (fun c2 => w_f b224 d224_58 rfl rfl rfl <| w_f b224 d224_59 rfl rfl rfl <| w_cc b224 d224_60 rfl (pcl_s1 (n := 2) rfl rfl rfl (by decide +kernel) rfl rfl) rfl <| q222 lw1 hx2 ((h w1 lw1 bw1).2 c2).1 (fun w3 lw3 bw3 => w_ifeq b224 d224_63 rfl rfl (by decide +kernel) ⟨by decide, by decide⟩ (fun c => absurd c (by decide)) (fun _ => w_f b224 d224_66 rfl rfl rfl <| w_f b224 d224_67 rfl rfl rfl <| w_cc b224 d224_68 rfl (pcl_s1 (n := 2) rfl rfl rfl (by decide +kernel) rfl rfl) rfl <| q223 lw3 hx2 (((h w1 lw1 bw1).2 c2).2 w3 lw3 bw3).1 (fun w4 lw4 bw4 => w_ifne b224 d224_71 rfl rfl (by decide +kernel) ⟨by decide, by decide⟩ (fun _ => w_f b224 d224_76 rfl (pf_iinc rfl rfl) rfl <| w_j b224 d224_79 rfl (by decide +kernel) <| ((((h w1 lw1 bw1).2 c2).2 w3 lw3 bw3).2 w4 lw4 bw4)) (fun c => absurd c (by decide)))))))
section LAG
variable {Q : PO → PW → Prop} {m : Row} {sn : Nat} {sf : Nat → Int32}
theorem teeth_all (m : Row) : sm (sTooth m) (m 4).toNat = sAll m := (sm_swap (fun u t => sPinT m u t) (m 1).toNat (m 4).toNat).symm
abbrev agQ (m : Row) (sn : Nat) (sf : Nat → Int32) (Q : PO → PW → Prop) : Prop := ∀ w' H n k0, LW w' m H n k0 sn sf → Q (rI 1) w'
theorem l224_49 (h0 : RowOK m) (h : agQ m sn sf Q) {x1 : Int} (hx1 : bd x1) :
    ∀ d k : Nat, k + d = (m 1).toNat → ∀ w H n k0, LW w m H n k0 sn sf → pX 224 49 [some (.ref 0), some (iv x1), some (iv (k : Nat))] [] w Q := by
  have s1 := h0.u
  intro d
  induction d with
  | zero =>
    intro k hk w H n k0 l
    exact v224_49 l hx1 (bdk (by omega)) (fun w1 l1 _ => ⟨fun _ => h w1 H n k0 l1, fun q => by omega⟩)
  | succ d ih =>
    intro k hk w H n k0 l
    have hk2 : 0 ≤ ((k : Nat) : Int) ∧ ((k : Nat) : Int) < m 1 := ⟨by omega, by omega⟩
    exact v224_49 l hx1 (bdk (by omega)) (fun w1 l1 _ => ⟨fun q => by omega, fun _ => ⟨hk2, fun w3 l3 _ => ⟨hk2, fun w4 l4 _ => ih (k + 1) (by omega) w4 _ _ _ l4⟩⟩⟩)
theorem l224_4 (h0 : RowOK m) (h : agQ m sn sf Q) {H : Nat → Row} {n : Nat} {k0 : Option Row} :
    ∀ d k : Nat, k + d = (m 4).toNat → ∀ w, LW w m H n k0 sn sf → pX 224 4 [some (.ref 0), some (iv (sm (sTooth m) k)), some (iv (k : Nat))] [] w Q := by
  have s1 := h0.t
  intro d
  induction d with
  | zero =>
    intro k hk w l
    have hb := sm_le (f := sTooth m) (n := k) (N := 12) (c := 192) (fun i => sTooth_bd h0 i) (by omega) (by decide)
    have hbd : bd (sm (sTooth m) k) := ⟨by omega, by omega⟩
    refine v224_4 l hbd (bdk (by omega)) (fun w1 l1 _ => ⟨fun _ w3 l3 _ => ⟨fun q => absurd ?_ q, fun _ w5 l5 _ => l224_49 h0 h hbd (m 1).toNat 0 (by omega) w5 H n k0 l5⟩, fun q => by omega⟩)
    rw [show k = (m 4).toNat by omega]
    exact teeth_all m
  | succ d ih =>
    intro k hk w l
    have hb := sm_le (f := sTooth m) (n := k) (N := 12) (c := 192) (fun i => sTooth_bd h0 i) (by omega) (by decide)
    refine v224_4 l ⟨by omega, by omega⟩ (bdk (by omega)) (fun w1 l1 _ => ⟨fun q => by omega, fun q => ⟨⟨by omega, q⟩, fun w6 l6 _ => ?_⟩⟩)
    rw [Int.toNat_natCast]
    exact ih (k + 1) (by omega) w6 l6
/-- agrees says true -/
theorem q224 {w : PW} {H : Nat → Row} {n : Nat} {k0 : Option Row} (hl : LW w m H n k0 sn sf) (h : agQ m sn sf Q) : pC 224 [.ref 0] w Q :=
  e224 hl (l224_4 hl.ok h (m 4).toNat 0 (by omega) w hl)
end LAG
