/-! calls and methods: their words -/
abbrev okn (M n : Nat) : Prop := (parseMethodDescriptor (mY M).desc).map (fun d => d.parameters.length) = some n
def okM (c : Nat) (e : Nat × Nat × Nat × Nat) : Prop := match e.2.2.2 with
  | 0 => (Cond.methodLink (cN c) e.1 (mY e.2.1) ∈ TG ∧ Cond.instanceMethod (mY e.2.1) ∈ TG ∧ Cond.selects (mY e.2.1).cls (mY e.2.1) (mY e.2.1) ∈ TG ∧ (∃ (T : u_T) (N : Nat), vwCl[mI e.2.1]? = some ((mY e.2.1).cls, T, N))) ∧ mH e.2.1 = [] ∧ okn e.2.1 e.2.2.1 ∧ e.2.1 < pNM
  | 1 => (Cond.methodLink (cN c) e.1 (mY e.2.1) ∈ TG ∧ Cond.static (mY e.2.1) ∈ TG) ∧ mH e.2.1 = [] ∧ okn e.2.1 e.2.2.1 ∧ e.2.1 < pNM
  | 2 => (Cond.methodLink (cN c) e.1 (mY e.2.1) ∈ TG ∧ Cond.instanceMethod (mY e.2.1) ∈ TG ∧ (mY e.2.1).name = "<init>" ∧ mR e.2.1 = none) ∧ mH e.2.1 = [] ∧ okn e.2.1 e.2.2.1 ∧ e.2.1 < pNM
  | 3 => (Cond.methodLinkNest (cN c) e.1 (mY e.2.1) "PinBarrel" ∈ lw_tbl ∧ Cond.instanceMethod (mY e.2.1) ∈ TG ∧ (mY e.2.1).name = "<init>" ∧ mR e.2.1 = none) ∧ mH e.2.1 = [] ∧ okn e.2.1 e.2.2.1 ∧ e.2.1 < pNM
  | 4 => (Cond.methodLink (cN c) e.1 (mY e.2.1) ∈ TG ∧ Cond.static (mY e.2.1) ∈ TG) ∧ (mH e.2.1).isEmpty = false ∧ okn e.2.1 e.2.2.1 ∧ e.2.1 < pNM
  | 5 => Cond.methodLink (cN c) e.1 objectInit ∈ TG
  | 6 => Cond.methodLink (cN c) e.1 Lib.Math.max.name ∈ TG
  | 7 => Cond.methodLink (cN c) e.1 Lib.Math.min.name ∈ TG
  | 8 => Cond.methodLink (cN c) e.1 arraycopyName ∈ TG
  | 9 => Cond.methodLink (cN c) e.1 ⟨"java/lang/String", "length", "()I"⟩ ∈ TG
  | 10 => Cond.methodLink (cN c) e.1 ⟨"java/lang/String", "charAt", "(I)C"⟩ ∈ TG
  | 11 => Cond.methodLink (cN c) e.1 Lib.Math.abs.name ∈ TG
  | _ => False
set_option maxRecDepth 100000 in
theorem okM_0 : ∀ e ∈ kM 0, okM 0 e :=
  allm (tg 68 rfl rfl : okM 0 (3, 0, 0, 5)) <|
  allm (⟨⟨List.mem_of_getElem? (i := 71) rfl, tg 72 rfl rfl, rfl, rfl⟩, rfl, by decide +kernel, Nat.le_of_ble_eq_true rfl⟩ : okM 0 (40, 0, 0, 3)) <|
  allm (⟨⟨tg 105 rfl rfl, tg 106 rfl rfl, rfl, rfl⟩, rfl, by decide +kernel, Nat.le_of_ble_eq_true rfl⟩ : okM 0 (47, 2, 0, 2)) <|
  allm (tg 510 rfl rfl : okM 0 (52, 0, 5, 8)) <|
  allm (⟨⟨tg 513 rfl rfl, tg 514 rfl rfl, tg 515 rfl rfl, ⟨_, _, rfl⟩⟩, rfl, by decide +kernel, Nat.le_of_ble_eq_true rfl⟩ : okM 0 (58, 35, 1, 0)) <|
  allm (⟨⟨tg 518 rfl rfl, tg 519 rfl rfl, tg 520 rfl rfl, ⟨_, _, rfl⟩⟩, rfl, by decide +kernel, Nat.le_of_ble_eq_true rfl⟩ : okM 0 (62, 36, 1, 0)) <|
  allm (⟨⟨tg 426 rfl rfl, tg 427 rfl rfl⟩, rfl, by decide +kernel, Nat.le_of_ble_eq_true rfl⟩ : okM 0 (65, 16, 2, 1)) <|
  allm (⟨⟨tg 429 rfl rfl, tg 430 rfl rfl, tg 431 rfl rfl, ⟨_, _, rfl⟩⟩, rfl, by decide +kernel, Nat.le_of_ble_eq_true rfl⟩ : okM 0 (74, 18, 0, 0)) <|
  allm (⟨⟨tg 474 rfl rfl, tg 434 rfl rfl, tg 435 rfl rfl, ⟨_, _, rfl⟩⟩, rfl, by decide +kernel, Nat.le_of_ble_eq_true rfl⟩ : okM 0 (77, 17, 1, 0)) <|
  allm (⟨⟨tg 493 rfl rfl, tg 494 rfl rfl, tg 495 rfl rfl, ⟨_, _, rfl⟩⟩, rfl, by decide +kernel, Nat.le_of_ble_eq_true rfl⟩ : okM 0 (81, 28, 2, 0)) <|
  allm (⟨⟨tg 497 rfl rfl, tg 498 rfl rfl, tg 499 rfl rfl, ⟨_, _, rfl⟩⟩, rfl, by decide +kernel, Nat.le_of_ble_eq_true rfl⟩ : okM 0 (85, 29, 1, 0)) <|
  allm (⟨⟨tg 931 rfl rfl, tg 932 rfl rfl⟩, rfl, by decide +kernel, Nat.le_of_ble_eq_true rfl⟩ : okM 0 (89, 42, 2, 1)) <|
  allm (⟨⟨tg 502 rfl rfl, tg 503 rfl rfl, tg 504 rfl rfl, ⟨_, _, rfl⟩⟩, rfl, by decide +kernel, Nat.le_of_ble_eq_true rfl⟩ : okM 0 (97, 30, 2, 0)) <|
  allm (⟨⟨tg 790 rfl rfl, tg 791 rfl rfl, tg 792 rfl rfl, ⟨_, _, rfl⟩⟩, rfl, by decide +kernel, Nat.le_of_ble_eq_true rfl⟩ : okM 0 (101, 58, 1, 0)) <|
  allm (⟨⟨tg 794 rfl rfl, tg 795 rfl rfl⟩, rfl, by decide +kernel, Nat.le_of_ble_eq_true rfl⟩ : okM 0 (105, 57, 1, 1)) <|
  allm (⟨⟨tg 1103 rfl rfl, tg 928 rfl rfl, tg 929 rfl rfl, ⟨_, _, rfl⟩⟩, rfl, by decide +kernel, Nat.le_of_ble_eq_true rfl⟩ : okM 0 (111, 43, 3, 0)) <|
  allm (⟨⟨tg 1042 rfl rfl, tg 812 rfl rfl⟩, rfl, by decide +kernel, Nat.le_of_ble_eq_true rfl⟩ : okM 0 (115, 61, 3, 1)) <|
  allm (⟨⟨tg 1058 rfl rfl, tg 1059 rfl rfl⟩, rfl, by decide +kernel, Nat.le_of_ble_eq_true rfl⟩ : okM 0 (119, 190, 2, 1)) <|
  allm (⟨⟨tg 1275 rfl rfl, tg 1276 rfl rfl⟩, rfl, by decide +kernel, Nat.le_of_ble_eq_true rfl⟩ : okM 0 (123, 90, 3, 1)) <|
  allm (⟨⟨tg 1114 rfl rfl, tg 1048 rfl rfl⟩, rfl, by decide +kernel, Nat.le_of_ble_eq_true rfl⟩ : okM 0 (127, 47, 2, 1)) <|
  allm (⟨⟨tg 1104 rfl rfl, tg 1015 rfl rfl, tg 1016 rfl rfl, ⟨_, _, rfl⟩⟩, rfl, by decide +kernel, Nat.le_of_ble_eq_true rfl⟩ : okM 0 (130, 44, 1, 0)) <|
  allm (tg 1279 rfl rfl : okM 0 (133, 0, 2, 6)) <|
  allm (⟨⟨tg 1271 rfl rfl, tg 1272 rfl rfl, tg 1273 rfl rfl, ⟨_, _, rfl⟩⟩, rfl, by decide +kernel, Nat.le_of_ble_eq_true rfl⟩ : okM 0 (138, 91, 3, 0)) <|
  allm (⟨⟨tg 808 rfl rfl, tg 809 rfl rfl⟩, rfl, by decide +kernel, Nat.le_of_ble_eq_true rfl⟩ : okM 0 (142, 62, 4, 1)) <|
  allm (⟨⟨tg 804 rfl rfl, tg 805 rfl rfl, tg 806 rfl rfl, ⟨_, _, rfl⟩⟩, rfl, by decide +kernel, Nat.le_of_ble_eq_true rfl⟩ : okM 0 (146, 63, 1, 0)) <|
  allm (⟨⟨tg 1221 rfl rfl, tg 1223 rfl rfl, tg 26 rfl rfl, ⟨_, _, rfl⟩⟩, rfl, by decide +kernel, Nat.le_of_ble_eq_true rfl⟩ : okM 0 (149, 100, 2, 0)) <|
  allm (⟨⟨tg 1225 rfl rfl, tg 1019 rfl rfl⟩, rfl, by decide +kernel, Nat.le_of_ble_eq_true rfl⟩ : okM 0 (152, 99, 3, 1)) <|
  allm (⟨⟨tg 1226 rfl rfl, tg 1227 rfl rfl⟩, rfl, by decide +kernel, Nat.le_of_ble_eq_true rfl⟩ : okM 0 (156, 81, 3, 1)) <|
  allm (⟨⟨tg 1162 rfl rfl, tg 1163 rfl rfl, tg 1164 rfl rfl, ⟨_, _, rfl⟩⟩, rfl, by decide +kernel, Nat.le_of_ble_eq_true rfl⟩ : okM 0 (159, 72, 1, 0)) <|
  allm (⟨⟨tg 1258 rfl rfl, tg 1159 rfl rfl, tg 1160 rfl rfl, ⟨_, _, rfl⟩⟩, rfl, by decide +kernel, Nat.le_of_ble_eq_true rfl⟩ : okM 0 (169, 73, 1, 0)) <|
  allm (⟨⟨tg 1105 rfl rfl, tg 1106 rfl rfl, tg 1107 rfl rfl, ⟨_, _, rfl⟩⟩, rfl, by decide +kernel, Nat.le_of_ble_eq_true rfl⟩ : okM 0 (176, 46, 3, 0)) <|
  alln
set_option maxRecDepth 100000 in
theorem okM_1 : ∀ e ∈ kM 1, okM 1 e :=
  allm (tg 207 rfl rfl : okM 1 (3, 0, 0, 5)) <|
  allm (⟨⟨List.mem_of_getElem? (i := 210) rfl, tg 66 rfl rfl, rfl, rfl⟩, rfl, by decide +kernel, Nat.le_of_ble_eq_true rfl⟩ : okM 1 (24, 3, 0, 3)) <|
  allm (⟨⟨tg 926 rfl rfl, tg 507 rfl rfl, tg 508 rfl rfl, ⟨_, _, rfl⟩⟩, rfl, by decide +kernel, Nat.le_of_ble_eq_true rfl⟩ : okM 1 (25, 37, 1, 0)) <|
  alln
set_option maxRecDepth 100000 in
theorem okM_2 : ∀ e ∈ kM 2, okM 2 e :=
  allm (tg 74 rfl rfl : okM 2 (3, 0, 0, 5)) <|
  allm (tg 517 rfl rfl : okM 2 (25, 0, 5, 8)) <|
  allm (⟨⟨tg 1047 rfl rfl, tg 1048 rfl rfl⟩, rfl, by decide +kernel, Nat.le_of_ble_eq_true rfl⟩ : okM 2 (31, 47, 2, 1)) <|
  alln
set_option maxRecDepth 100000 in
theorem okM_3 : ∀ e ∈ kM 3, okM 3 e :=
  allm (tg 108 rfl rfl : okM 3 (3, 0, 0, 5)) <|
  allm (⟨⟨tg 109 rfl rfl, tg 110 rfl rfl⟩, rfl, by decide +kernel, Nat.le_of_ble_eq_true rfl⟩ : okM 3 (40, 1, 2, 1)) <|
  allm (tg 522 rfl rfl : okM 3 (46, 0, 5, 8)) <|
  allm (⟨⟨tg 433 rfl rfl, tg 434 rfl rfl, tg 435 rfl rfl, ⟨_, _, rfl⟩⟩, rfl, by decide +kernel, Nat.le_of_ble_eq_true rfl⟩ : okM 3 (52, 17, 1, 0)) <|
  allm (tg 1113 rfl rfl : okM 3 (56, 0, 2, 6)) <|
  allm (⟨⟨tg 1109 rfl rfl, tg 1110 rfl rfl, tg 1111 rfl rfl, ⟨_, _, rfl⟩⟩, rfl, by decide +kernel, Nat.le_of_ble_eq_true rfl⟩ : okM 3 (62, 45, 2, 0)) <|
  alln
set_option maxRecDepth 100000 in
theorem okM_4 : ∀ e ∈ kM 4, okM 4 e :=
  allm (tg 227 rfl rfl : okM 4 (3, 0, 0, 5)) <|
  allm (⟨⟨tg 392 rfl rfl, tg 394 rfl rfl, tg 0 rfl rfl, ⟨_, _, rfl⟩⟩, rfl, by decide +kernel, Nat.le_of_ble_eq_true rfl⟩ : okM 4 (33, 20, 1, 0)) <|
  allm (⟨⟨tg 400 rfl rfl, tg 402 rfl rfl, tg 2 rfl rfl, ⟨_, _, rfl⟩⟩, rfl, by decide +kernel, Nat.le_of_ble_eq_true rfl⟩ : okM 4 (37, 11, 0, 0)) <|
  allm (⟨⟨tg 411 rfl rfl, tg 413 rfl rfl, tg 4 rfl rfl, ⟨_, _, rfl⟩⟩, rfl, by decide +kernel, Nat.le_of_ble_eq_true rfl⟩ : okM 4 (40, 14, 2, 0)) <|
  allm (⟨⟨tg 437 rfl rfl, tg 439 rfl rfl, tg 6 rfl rfl, ⟨_, _, rfl⟩⟩, rfl, by decide +kernel, Nat.le_of_ble_eq_true rfl⟩ : okM 4 (44, 33, 1, 0)) <|
  allm (⟨⟨tg 396 rfl rfl, tg 398 rfl rfl, tg 1 rfl rfl, ⟨_, _, rfl⟩⟩, rfl, by decide +kernel, Nat.le_of_ble_eq_true rfl⟩ : okM 4 (47, 12, 0, 0)) <|
  allm (⟨⟨tg 405 rfl rfl, tg 407 rfl rfl, tg 3 rfl rfl, ⟨_, _, rfl⟩⟩, rfl, by decide +kernel, Nat.le_of_ble_eq_true rfl⟩ : okM 4 (53, 13, 2, 0)) <|
  allm (⟨⟨tg 415 rfl rfl, tg 417 rfl rfl, tg 5 rfl rfl, ⟨_, _, rfl⟩⟩, rfl, by decide +kernel, Nat.le_of_ble_eq_true rfl⟩ : okM 4 (57, 15, 2, 0)) <|
  allm (⟨⟨tg 422 rfl rfl, tg 423 rfl rfl, tg 424 rfl rfl, ⟨_, _, rfl⟩⟩, rfl, by decide +kernel, Nat.le_of_ble_eq_true rfl⟩ : okM 4 (61, 19, 3, 0)) <|
  allm (⟨⟨tg 442 rfl rfl, tg 444 rfl rfl, tg 7 rfl rfl, ⟨_, _, rfl⟩⟩, rfl, by decide +kernel, Nat.le_of_ble_eq_true rfl⟩ : okM 4 (69, 21, 1, 0)) <|
  allm (⟨⟨tg 447 rfl rfl, tg 449 rfl rfl, tg 8 rfl rfl, ⟨_, _, rfl⟩⟩, rfl, by decide +kernel, Nat.le_of_ble_eq_true rfl⟩ : okM 4 (77, 25, 1, 0)) <|
  allm (⟨⟨tg 476 rfl rfl, tg 478 rfl rfl, tg 10 rfl rfl, ⟨_, _, rfl⟩⟩, rfl, by decide +kernel, Nat.le_of_ble_eq_true rfl⟩ : okM 4 (91, 27, 1, 0)) <|
  allm (⟨⟨tg 485 rfl rfl, tg 487 rfl rfl, tg 11 rfl rfl, ⟨_, _, rfl⟩⟩, rfl, by decide +kernel, Nat.le_of_ble_eq_true rfl⟩ : okM 4 (96, 32, 1, 0)) <|
  allm (⟨⟨tg 451 rfl rfl, tg 453 rfl rfl, tg 9 rfl rfl, ⟨_, _, rfl⟩⟩, rfl, by decide +kernel, Nat.le_of_ble_eq_true rfl⟩ : okM 4 (101, 23, 0, 0)) <|
  allm (⟨⟨tg 470 rfl rfl, tg 471 rfl rfl, tg 472 rfl rfl, ⟨_, _, rfl⟩⟩, rfl, by decide +kernel, Nat.le_of_ble_eq_true rfl⟩ : okM 4 (104, 24, 2, 0)) <|
  allm (⟨⟨tg 480 rfl rfl, tg 481 rfl rfl, tg 482 rfl rfl, ⟨_, _, rfl⟩⟩, rfl, by decide +kernel, Nat.le_of_ble_eq_true rfl⟩ : okM 4 (114, 26, 3, 0)) <|
  allm (⟨⟨tg 489 rfl rfl, tg 490 rfl rfl, tg 491 rfl rfl, ⟨_, _, rfl⟩⟩, rfl, by decide +kernel, Nat.le_of_ble_eq_true rfl⟩ : okM 4 (117, 31, 4, 0)) <|
  allm (⟨⟨tg 455 rfl rfl, tg 456 rfl rfl⟩, rfl, by decide +kernel, Nat.le_of_ble_eq_true rfl⟩ : okM 4 (121, 22, 1, 1)) <|
  allm (tg 419 rfl rfl : okM 4 (127, 0, 2, 7)) <|
  allm (tg 409 rfl rfl : okM 4 (132, 0, 0, 9)) <|
  allm (tg 410 rfl rfl : okM 4 (136, 0, 1, 10)) <|
  alln
set_option maxRecDepth 100000 in
theorem okM_5 : ∀ e ∈ kM 5, okM 5 e :=
  allm (⟨⟨tg 814 rfl rfl, tg 815 rfl rfl⟩, rfl, by decide +kernel, Nat.le_of_ble_eq_true rfl⟩ : okM 5 (11, 60, 1, 1)) <|
  allm (⟨⟨tg 1061 rfl rfl, tg 932 rfl rfl⟩, rfl, by decide +kernel, Nat.le_of_ble_eq_true rfl⟩ : okM 5 (17, 42, 2, 1)) <|
  allm (⟨⟨tg 811 rfl rfl, tg 812 rfl rfl⟩, rfl, by decide +kernel, Nat.le_of_ble_eq_true rfl⟩ : okM 5 (21, 61, 3, 1)) <|
  allm (⟨⟨tg 1278 rfl rfl, tg 1048 rfl rfl⟩, rfl, by decide +kernel, Nat.le_of_ble_eq_true rfl⟩ : okM 5 (25, 47, 2, 1)) <|
  allm (⟨⟨tg 818 rfl rfl, tg 795 rfl rfl⟩, rfl, by decide +kernel, Nat.le_of_ble_eq_true rfl⟩ : okM 5 (29, 57, 1, 1)) <|
  alln
set_option maxRecDepth 100000 in
theorem okM_6 : ∀ e ∈ kM 6, okM 6 e :=
  allm (tg 271 rfl rfl : okM 6 (3, 0, 0, 5)) <|
  allm (⟨⟨tg 981 rfl rfl, tg 983 rfl rfl, tg 19 rfl rfl, ⟨_, _, rfl⟩⟩, rfl, by decide +kernel, Nat.le_of_ble_eq_true rfl⟩ : okM 6 (32, 118, 2, 0)) <|
  allm (⟨⟨tg 998 rfl rfl, tg 999 rfl rfl⟩, rfl, by decide +kernel, Nat.le_of_ble_eq_true rfl⟩ : okM 6 (47, 119, 4, 1)) <|
  allm (⟨⟨tg 1001 rfl rfl, tg 1003 rfl rfl, tg 22 rfl rfl, ⟨_, _, rfl⟩⟩, rfl, by decide +kernel, Nat.le_of_ble_eq_true rfl⟩ : okM 6 (51, 121, 3, 0)) <|
  allm (⟨⟨tg 1010 rfl rfl, tg 1012 rfl rfl, tg 24 rfl rfl, ⟨_, _, rfl⟩⟩, rfl, by decide +kernel, Nat.le_of_ble_eq_true rfl⟩ : okM 6 (55, 122, 3, 0)) <|
  allm (⟨⟨tg 1021 rfl rfl, tg 1023 rfl rfl, tg 25 rfl rfl, ⟨_, _, rfl⟩⟩, rfl, by decide +kernel, Nat.le_of_ble_eq_true rfl⟩ : okM 6 (59, 123, 3, 0)) <|
  allm (tg 985 rfl rfl : okM 6 (65, 0, 5, 8)) <|
  allm (⟨⟨tg 986 rfl rfl, tg 494 rfl rfl, tg 495 rfl rfl, ⟨_, _, rfl⟩⟩, rfl, by decide +kernel, Nat.le_of_ble_eq_true rfl⟩ : okM 6 (74, 28, 2, 0)) <|
  allm (⟨⟨tg 987 rfl rfl, tg 989 rfl rfl, tg 20 rfl rfl, ⟨_, _, rfl⟩⟩, rfl, by decide +kernel, Nat.le_of_ble_eq_true rfl⟩ : okM 6 (78, 115, 2, 0)) <|
  allm (⟨⟨tg 991 rfl rfl, tg 993 rfl rfl, tg 21 rfl rfl, ⟨_, _, rfl⟩⟩, rfl, by decide +kernel, Nat.le_of_ble_eq_true rfl⟩ : okM 6 (86, 117, 2, 0)) <|
  allm (⟨⟨tg 995 rfl rfl, tg 996 rfl rfl⟩, rfl, by decide +kernel, Nat.le_of_ble_eq_true rfl⟩ : okM 6 (90, 116, 2, 1)) <|
  allm (⟨⟨tg 1014 rfl rfl, tg 1015 rfl rfl, tg 1016 rfl rfl, ⟨_, _, rfl⟩⟩, rfl, by decide +kernel, Nat.le_of_ble_eq_true rfl⟩ : okM 6 (98, 44, 1, 0)) <|
  allm (⟨⟨tg 1005 rfl rfl, tg 1007 rfl rfl, tg 23 rfl rfl, ⟨_, _, rfl⟩⟩, rfl, by decide +kernel, Nat.le_of_ble_eq_true rfl⟩ : okM 6 (105, 120, 1, 0)) <|
  allm (⟨⟨tg 1018 rfl rfl, tg 1019 rfl rfl⟩, rfl, by decide +kernel, Nat.le_of_ble_eq_true rfl⟩ : okM 6 (109, 99, 3, 1)) <|
  alln
set_option maxRecDepth 100000 in
theorem okM_7 : ∀ e ∈ kM 7, okM 7 e :=
  allm (tg 258 rfl rfl : okM 7 (3, 0, 0, 5)) <|
  alln
set_option maxRecDepth 100000 in
theorem okM_8_1 : ∀ e ∈ ([(356, 191, 1, 0), (359, 192, 2, 0), (374, 55, 1, 0)] : List (Nat × Nat × Nat × Nat)), okM 8 e :=
  allm (⟨⟨tg 1054 rfl rfl, tg 1055 rfl rfl, tg 1056 rfl rfl, ⟨_, _, rfl⟩⟩, rfl, by decide +kernel, Nat.le_of_ble_eq_true rfl⟩ : okM 8 (356, 191, 1, 0)) <|
  allm (⟨⟨tg 1062 rfl rfl, tg 1063 rfl rfl, tg 1064 rfl rfl, ⟨_, _, rfl⟩⟩, rfl, by decide +kernel, Nat.le_of_ble_eq_true rfl⟩ : okM 8 (359, 192, 2, 0)) <|
  allm (⟨⟨tg 1125 rfl rfl, tg 1126 rfl rfl, tg 1127 rfl rfl, ⟨_, _, rfl⟩⟩, rfl, by decide +kernel, Nat.le_of_ble_eq_true rfl⟩ : okM 8 (374, 55, 1, 0)) <|
  alln
set_option maxRecDepth 100000 in
theorem okM_8_0 : ∀ e ∈ ([(3, 0, 0, 5), (11, 3, 0, 3), (21, 4, 0, 2), (36, 5, 0, 3), (43, 6, 0, 3), (50, 7, 0, 3), (62, 9, 1, 0), (69, 34, 1, 0), (80, 37, 1, 0), (84, 38, 0, 0), (111, 59, 0, 0), (136, 64, 0, 0), (147, 67, 1, 0), (158, 44, 1, 0), (162, 68, 1, 0), (174, 45, 2, 0), (178, 71, 1, 0), (186, 73, 1, 0), (189, 77, 1, 0), (192, 78, 1, 0), (195, 43, 3, 0), (199, 28, 2, 0), (212, 84, 2, 0), (215, 87, 1, 1), (220, 92, 1, 0), (223, 76, 3, 0), (227, 95, 2, 0), (230, 96, 3, 0), (234, 91, 3, 0), (237, 101, 1, 0), (240, 102, 1, 0), (243, 103, 1, 0), (246, 106, 1, 0), (249, 107, 1, 0), (252, 58, 1, 0), (255, 112, 1, 0), (259, 124, 3, 0), (269, 129, 0, 0), (273, 130, 1, 0), (276, 133, 0, 0), (282, 24, 2, 0), (286, 143, 2, 0), (289, 146, 1, 0), (301, 0, 2, 6), (304, 154, 1, 0), (307, 42, 2, 1), (311, 90, 3, 1), (314, 157, 2, 0), (317, 48, 1, 0), (320, 52, 0, 0), (323, 47, 2, 1), (326, 164, 1, 0), (329, 26, 3, 0), (332, 167, 1, 0), (335, 31, 4, 0), (339, 30, 2, 0), (343, 180, 1, 0), (346, 183, 2, 0), (350, 184, 2, 0), (353, 187, 3, 0), (356, 191, 1, 0), (359, 192, 2, 0), (374, 55, 1, 0)] : List (Nat × Nat × Nat × Nat)), okM 8 e :=
  allm (tg 60 rfl rfl : okM 8 (3, 0, 0, 5)) <|
  allm (⟨⟨List.mem_of_getElem? (i := 65) rfl, tg 66 rfl rfl, rfl, rfl⟩, rfl, by decide +kernel, Nat.le_of_ble_eq_true rfl⟩ : okM 8 (11, 3, 0, 3)) <|
  allm (⟨⟨tg 204 rfl rfl, tg 205 rfl rfl, rfl, rfl⟩, rfl, by decide +kernel, Nat.le_of_ble_eq_true rfl⟩ : okM 8 (21, 4, 0, 2)) <|
  allm (⟨⟨List.mem_of_getElem? (i := 224) rfl, tg 225 rfl rfl, rfl, rfl⟩, rfl, by decide +kernel, Nat.le_of_ble_eq_true rfl⟩ : okM 8 (36, 5, 0, 3)) <|
  allm (⟨⟨List.mem_of_getElem? (i := 255) rfl, tg 256 rfl rfl, rfl, rfl⟩, rfl, by decide +kernel, Nat.le_of_ble_eq_true rfl⟩ : okM 8 (43, 6, 0, 3)) <|
  allm (⟨⟨List.mem_of_getElem? (i := 268) rfl, tg 269 rfl rfl, rfl, rfl⟩, rfl, by decide +kernel, Nat.le_of_ble_eq_true rfl⟩ : okM 8 (50, 7, 0, 3)) <|
  allm (⟨⟨tg 379 rfl rfl, tg 380 rfl rfl, tg 381 rfl rfl, ⟨_, _, rfl⟩⟩, rfl, by decide +kernel, Nat.le_of_ble_eq_true rfl⟩ : okM 8 (62, 9, 1, 0)) <|
  allm (⟨⟨tg 388 rfl rfl, tg 389 rfl rfl, tg 390 rfl rfl, ⟨_, _, rfl⟩⟩, rfl, by decide +kernel, Nat.le_of_ble_eq_true rfl⟩ : okM 8 (69, 34, 1, 0)) <|
  allm (⟨⟨tg 506 rfl rfl, tg 507 rfl rfl, tg 508 rfl rfl, ⟨_, _, rfl⟩⟩, rfl, by decide +kernel, Nat.le_of_ble_eq_true rfl⟩ : okM 8 (80, 37, 1, 0)) <|
  allm (⟨⟨tg 523 rfl rfl, tg 524 rfl rfl, tg 525 rfl rfl, ⟨_, _, rfl⟩⟩, rfl, by decide +kernel, Nat.le_of_ble_eq_true rfl⟩ : okM 8 (84, 38, 0, 0)) <|
  allm (⟨⟨tg 786 rfl rfl, tg 787 rfl rfl, tg 788 rfl rfl, ⟨_, _, rfl⟩⟩, rfl, by decide +kernel, Nat.le_of_ble_eq_true rfl⟩ : okM 8 (111, 59, 0, 0)) <|
  allm (⟨⟨tg 800 rfl rfl, tg 801 rfl rfl, tg 802 rfl rfl, ⟨_, _, rfl⟩⟩, rfl, by decide +kernel, Nat.le_of_ble_eq_true rfl⟩ : okM 8 (136, 64, 0, 0)) <|
  allm (⟨⟨tg 902 rfl rfl, tg 904 rfl rfl, tg 16 rfl rfl, ⟨_, _, rfl⟩⟩, rfl, by decide +kernel, Nat.le_of_ble_eq_true rfl⟩ : okM 8 (147, 67, 1, 0)) <|
  allm (⟨⟨tg 1148 rfl rfl, tg 1015 rfl rfl, tg 1016 rfl rfl, ⟨_, _, rfl⟩⟩, rfl, by decide +kernel, Nat.le_of_ble_eq_true rfl⟩ : okM 8 (158, 44, 1, 0)) <|
  allm (⟨⟨tg 1149 rfl rfl, tg 1150 rfl rfl, tg 1151 rfl rfl, ⟨_, _, rfl⟩⟩, rfl, by decide +kernel, Nat.le_of_ble_eq_true rfl⟩ : okM 8 (162, 68, 1, 0)) <|
  allm (⟨⟨tg 1153 rfl rfl, tg 1110 rfl rfl, tg 1111 rfl rfl, ⟨_, _, rfl⟩⟩, rfl, by decide +kernel, Nat.le_of_ble_eq_true rfl⟩ : okM 8 (174, 45, 2, 0)) <|
  allm (⟨⟨tg 951 rfl rfl, tg 953 rfl rfl, tg 18 rfl rfl, ⟨_, _, rfl⟩⟩, rfl, by decide +kernel, Nat.le_of_ble_eq_true rfl⟩ : okM 8 (178, 71, 1, 0)) <|
  allm (⟨⟨tg 1158 rfl rfl, tg 1159 rfl rfl, tg 1160 rfl rfl, ⟨_, _, rfl⟩⟩, rfl, by decide +kernel, Nat.le_of_ble_eq_true rfl⟩ : okM 8 (186, 73, 1, 0)) <|
  allm (⟨⟨tg 889 rfl rfl, tg 891 rfl rfl, tg 13 rfl rfl, ⟨_, _, rfl⟩⟩, rfl, by decide +kernel, Nat.le_of_ble_eq_true rfl⟩ : okM 8 (189, 77, 1, 0)) <|
  allm (⟨⟨tg 898 rfl rfl, tg 900 rfl rfl, tg 15 rfl rfl, ⟨_, _, rfl⟩⟩, rfl, by decide +kernel, Nat.le_of_ble_eq_true rfl⟩ : okM 8 (192, 78, 1, 0)) <|
  allm (⟨⟨tg 927 rfl rfl, tg 928 rfl rfl, tg 929 rfl rfl, ⟨_, _, rfl⟩⟩, rfl, by decide +kernel, Nat.le_of_ble_eq_true rfl⟩ : okM 8 (195, 43, 3, 0)) <|
  allm (⟨⟨tg 1119 rfl rfl, tg 494 rfl rfl, tg 495 rfl rfl, ⟨_, _, rfl⟩⟩, rfl, by decide +kernel, Nat.le_of_ble_eq_true rfl⟩ : okM 8 (199, 28, 2, 0)) <|
  allm (⟨⟨tg 1170 rfl rfl, tg 1171 rfl rfl, tg 1172 rfl rfl, ⟨_, _, rfl⟩⟩, rfl, by decide +kernel, Nat.le_of_ble_eq_true rfl⟩ : okM 8 (212, 84, 2, 0)) <|
  allm (⟨⟨tg 1305 rfl rfl, tg 1306 rfl rfl⟩, rfl, by decide +kernel, Nat.le_of_ble_eq_true rfl⟩ : okM 8 (215, 87, 1, 1)) <|
  allm (⟨⟨tg 1267 rfl rfl, tg 1268 rfl rfl, tg 1269 rfl rfl, ⟨_, _, rfl⟩⟩, rfl, by decide +kernel, Nat.le_of_ble_eq_true rfl⟩ : okM 8 (220, 92, 1, 0)) <|
  allm (⟨⟨tg 893 rfl rfl, tg 895 rfl rfl, tg 14 rfl rfl, ⟨_, _, rfl⟩⟩, rfl, by decide +kernel, Nat.le_of_ble_eq_true rfl⟩ : okM 8 (223, 76, 3, 0)) <|
  allm (⟨⟨tg 1284 rfl rfl, tg 1285 rfl rfl, tg 1286 rfl rfl, ⟨_, _, rfl⟩⟩, rfl, by decide +kernel, Nat.le_of_ble_eq_true rfl⟩ : okM 8 (227, 95, 2, 0)) <|
  allm (⟨⟨tg 1288 rfl rfl, tg 1289 rfl rfl, tg 1290 rfl rfl, ⟨_, _, rfl⟩⟩, rfl, by decide +kernel, Nat.le_of_ble_eq_true rfl⟩ : okM 8 (230, 96, 3, 0)) <|
  allm (⟨⟨tg 1292 rfl rfl, tg 1272 rfl rfl, tg 1273 rfl rfl, ⟨_, _, rfl⟩⟩, rfl, by decide +kernel, Nat.le_of_ble_eq_true rfl⟩ : okM 8 (234, 91, 3, 0)) <|
  allm (⟨⟨tg 1217 rfl rfl, tg 1218 rfl rfl, tg 1219 rfl rfl, ⟨_, _, rfl⟩⟩, rfl, by decide +kernel, Nat.le_of_ble_eq_true rfl⟩ : okM 8 (237, 101, 1, 0)) <|
  allm (⟨⟨tg 1229 rfl rfl, tg 1230 rfl rfl, tg 1231 rfl rfl, ⟨_, _, rfl⟩⟩, rfl, by decide +kernel, Nat.le_of_ble_eq_true rfl⟩ : okM 8 (240, 102, 1, 0)) <|
  allm (⟨⟨tg 1233 rfl rfl, tg 1234 rfl rfl, tg 1235 rfl rfl, ⟨_, _, rfl⟩⟩, rfl, by decide +kernel, Nat.le_of_ble_eq_true rfl⟩ : okM 8 (243, 103, 1, 0)) <|
  allm (⟨⟨tg 1078 rfl rfl, tg 1079 rfl rfl, tg 1080 rfl rfl, ⟨_, _, rfl⟩⟩, rfl, by decide +kernel, Nat.le_of_ble_eq_true rfl⟩ : okM 8 (246, 106, 1, 0)) <|
  allm (⟨⟨tg 1254 rfl rfl, tg 1255 rfl rfl, tg 1256 rfl rfl, ⟨_, _, rfl⟩⟩, rfl, by decide +kernel, Nat.le_of_ble_eq_true rfl⟩ : okM 8 (249, 107, 1, 0)) <|
  allm (⟨⟨tg 1033 rfl rfl, tg 791 rfl rfl, tg 792 rfl rfl, ⟨_, _, rfl⟩⟩, rfl, by decide +kernel, Nat.le_of_ble_eq_true rfl⟩ : okM 8 (252, 58, 1, 0)) <|
  allm (⟨⟨tg 1297 rfl rfl, tg 1298 rfl rfl, tg 1299 rfl rfl, ⟨_, _, rfl⟩⟩, rfl, by decide +kernel, Nat.le_of_ble_eq_true rfl⟩ : okM 8 (255, 112, 1, 0)) <|
  allm (⟨⟨tg 977 rfl rfl, tg 978 rfl rfl, tg 979 rfl rfl, ⟨_, _, rfl⟩⟩, rfl, by decide +kernel, Nat.le_of_ble_eq_true rfl⟩ : okM 8 (259, 124, 3, 0)) <|
  allm (⟨⟨tg 1025 rfl rfl, tg 1026 rfl rfl, tg 1027 rfl rfl, ⟨_, _, rfl⟩⟩, rfl, by decide +kernel, Nat.le_of_ble_eq_true rfl⟩ : okM 8 (269, 129, 0, 0)) <|
  allm (⟨⟨tg 1333 rfl rfl, tg 1334 rfl rfl, tg 1335 rfl rfl, ⟨_, _, rfl⟩⟩, rfl, by decide +kernel, Nat.le_of_ble_eq_true rfl⟩ : okM 8 (273, 130, 1, 0)) <|
  allm (⟨⟨tg 1341 rfl rfl, tg 1342 rfl rfl, tg 1343 rfl rfl, ⟨_, _, rfl⟩⟩, rfl, by decide +kernel, Nat.le_of_ble_eq_true rfl⟩ : okM 8 (276, 133, 0, 0)) <|
  allm (⟨⟨tg 964 rfl rfl, tg 471 rfl rfl, tg 472 rfl rfl, ⟨_, _, rfl⟩⟩, rfl, by decide +kernel, Nat.le_of_ble_eq_true rfl⟩ : okM 8 (282, 24, 2, 0)) <|
  allm (⟨⟨tg 1038 rfl rfl, tg 1039 rfl rfl, tg 1040 rfl rfl, ⟨_, _, rfl⟩⟩, rfl, by decide +kernel, Nat.le_of_ble_eq_true rfl⟩ : okM 8 (286, 143, 2, 0)) <|
  allm (⟨⟨tg 942 rfl rfl, tg 944 rfl rfl, tg 17 rfl rfl, ⟨_, _, rfl⟩⟩, rfl, by decide +kernel, Nat.le_of_ble_eq_true rfl⟩ : okM 8 (289, 146, 1, 0)) <|
  allm (tg 1321 rfl rfl : okM 8 (301, 0, 2, 6)) <|
  allm (⟨⟨tg 1315 rfl rfl, tg 1316 rfl rfl, tg 1317 rfl rfl, ⟨_, _, rfl⟩⟩, rfl, by decide +kernel, Nat.le_of_ble_eq_true rfl⟩ : okM 8 (304, 154, 1, 0)) <|
  allm (⟨⟨tg 1319 rfl rfl, tg 932 rfl rfl⟩, rfl, by decide +kernel, Nat.le_of_ble_eq_true rfl⟩ : okM 8 (307, 42, 2, 1)) <|
  allm (⟨⟨tg 1320 rfl rfl, tg 1276 rfl rfl⟩, rfl, by decide +kernel, Nat.le_of_ble_eq_true rfl⟩ : okM 8 (311, 90, 3, 1)) <|
  allm (⟨⟨tg 1139 rfl rfl, tg 1140 rfl rfl, tg 1141 rfl rfl, ⟨_, _, rfl⟩⟩, rfl, by decide +kernel, Nat.le_of_ble_eq_true rfl⟩ : okM 8 (314, 157, 2, 0)) <|
  allm (⟨⟨tg 1099 rfl rfl, tg 1100 rfl rfl, tg 1101 rfl rfl, ⟨_, _, rfl⟩⟩, rfl, by decide +kernel, Nat.le_of_ble_eq_true rfl⟩ : okM 8 (317, 48, 1, 0)) <|
  allm (⟨⟨tg 1178 rfl rfl, tg 1179 rfl rfl, tg 1180 rfl rfl, ⟨_, _, rfl⟩⟩, rfl, by decide +kernel, Nat.le_of_ble_eq_true rfl⟩ : okM 8 (320, 52, 0, 0)) <|
  allm (⟨⟨tg 1194 rfl rfl, tg 1048 rfl rfl⟩, rfl, by decide +kernel, Nat.le_of_ble_eq_true rfl⟩ : okM 8 (323, 47, 2, 1)) <|
  allm (⟨⟨tg 922 rfl rfl, tg 923 rfl rfl, tg 924 rfl rfl, ⟨_, _, rfl⟩⟩, rfl, by decide +kernel, Nat.le_of_ble_eq_true rfl⟩ : okM 8 (326, 164, 1, 0)) <|
  allm (⟨⟨tg 946 rfl rfl, tg 481 rfl rfl, tg 482 rfl rfl, ⟨_, _, rfl⟩⟩, rfl, by decide +kernel, Nat.le_of_ble_eq_true rfl⟩ : okM 8 (329, 26, 3, 0)) <|
  allm (⟨⟨tg 956 rfl rfl, tg 957 rfl rfl, tg 958 rfl rfl, ⟨_, _, rfl⟩⟩, rfl, by decide +kernel, Nat.le_of_ble_eq_true rfl⟩ : okM 8 (332, 167, 1, 0)) <|
  allm (⟨⟨tg 934 rfl rfl, tg 490 rfl rfl, tg 491 rfl rfl, ⟨_, _, rfl⟩⟩, rfl, by decide +kernel, Nat.le_of_ble_eq_true rfl⟩ : okM 8 (335, 31, 4, 0)) <|
  allm (⟨⟨tg 1120 rfl rfl, tg 503 rfl rfl, tg 504 rfl rfl, ⟨_, _, rfl⟩⟩, rfl, by decide +kernel, Nat.le_of_ble_eq_true rfl⟩ : okM 8 (339, 30, 2, 0)) <|
  allm (⟨⟨tg 1029 rfl rfl, tg 1030 rfl rfl, tg 1031 rfl rfl, ⟨_, _, rfl⟩⟩, rfl, by decide +kernel, Nat.le_of_ble_eq_true rfl⟩ : okM 8 (343, 180, 1, 0)) <|
  allm (⟨⟨tg 1070 rfl rfl, tg 1071 rfl rfl, tg 1072 rfl rfl, ⟨_, _, rfl⟩⟩, rfl, by decide +kernel, Nat.le_of_ble_eq_true rfl⟩ : okM 8 (346, 183, 2, 0)) <|
  allm (⟨⟨tg 1074 rfl rfl, tg 1075 rfl rfl, tg 1076 rfl rfl, ⟨_, _, rfl⟩⟩, rfl, by decide +kernel, Nat.le_of_ble_eq_true rfl⟩ : okM 8 (350, 184, 2, 0)) <|
  allm (⟨⟨tg 1043 rfl rfl, tg 1044 rfl rfl, tg 1045 rfl rfl, ⟨_, _, rfl⟩⟩, rfl, by decide +kernel, Nat.le_of_ble_eq_true rfl⟩ : okM 8 (353, 187, 3, 0)) <|
  okM_8_1
theorem okM_8 : ∀ e ∈ kM 8, okM 8 e := okM_8_0
set_option maxRecDepth 100000 in
theorem okM_9 : ∀ e ∈ kM 9, okM 9 e :=
  alln
set_option maxRecDepth 100000 in
theorem okM_10 : ∀ e ∈ kM 10, okM 10 e :=
  alln
set_option maxRecDepth 100000 in
theorem okM_11 : ∀ e ∈ kM 11, okM 11 e :=
  alln
set_option maxRecDepth 100000 in
theorem okM_12 : ∀ e ∈ kM 12, okM 12 e :=
  allm (tg 605 rfl rfl : okM 12 (150, 0, 5, 8)) <|
  allm (tg 604 rfl rfl : okM 12 (304, 0, 2, 7)) <|
  alln
set_option maxRecDepth 100000 in
theorem okM_13_1 : ∀ e ∈ ([(256, 226, 3, 1)] : List (Nat × Nat × Nat × Nat)), okM 13 e :=
  allm (⟨⟨tg 1129 rfl rfl, tg 1130 rfl rfl⟩, rfl, by decide +kernel, Nat.le_of_ble_eq_true rfl⟩ : okM 13 (256, 226, 3, 1)) <|
  alln
set_option maxRecDepth 100000 in
theorem okM_13_0 : ∀ e ∈ ([(8, 0, 1, 11), (14, 0, 0, 9), (20, 0, 1, 10), (24, 10, 1, 0), (30, 39, 0, 0), (41, 215, 2, 1), (79, 65, 1, 0), (82, 176, 4, 0), (86, 217, 1, 1), (89, 165, 3, 0), (93, 168, 1, 0), (96, 170, 2, 0), (100, 172, 2, 0), (103, 174, 2, 0), (106, 181, 1, 0), (109, 188, 2, 0), (112, 193, 1, 0), (115, 185, 2, 0), (118, 195, 1, 0), (121, 197, 1, 0), (124, 199, 1, 0), (127, 201, 1, 0), (130, 178, 1, 0), (133, 56, 0, 0), (136, 158, 2, 0), (141, 69, 2, 0), (144, 74, 2, 0), (147, 85, 2, 0), (150, 219, 3, 1), (154, 104, 2, 0), (157, 79, 3, 0), (161, 220, 3, 1), (165, 108, 1, 0), (168, 110, 1, 0), (171, 93, 1, 0), (174, 97, 3, 0), (177, 113, 1, 0), (181, 88, 1, 0), (184, 155, 1, 0), (187, 127, 1, 0), (190, 131, 1, 0), (193, 134, 1, 0), (196, 136, 1, 0), (199, 125, 1, 0), (202, 138, 1, 0), (205, 211, 1, 0), (208, 213, 1, 0), (211, 225, 1, 1), (215, 160, 1, 0), (218, 162, 1, 0), (221, 49, 0, 0), (224, 50, 0, 0), (227, 144, 1, 0), (230, 221, 1, 1), (234, 222, 2, 1), (238, 223, 2, 1), (241, 8, 0, 2), (246, 216, 2, 1), (249, 218, 3, 1), (253, 224, 1, 1), (256, 226, 3, 1)] : List (Nat × Nat × Nat × Nat)), okM 13 e :=
  allm (tg 535 rfl rfl : okM 13 (8, 0, 1, 11)) <|
  allm (tg 327 rfl rfl : okM 13 (14, 0, 0, 9)) <|
  allm (tg 337 rfl rfl : okM 13 (20, 0, 1, 10)) <|
  allm (⟨⟨tg 375 rfl rfl, tg 376 rfl rfl, tg 377 rfl rfl, ⟨_, _, rfl⟩⟩, rfl, by decide +kernel, Nat.le_of_ble_eq_true rfl⟩ : okM 13 (24, 10, 1, 0)) <|
  allm (⟨⟨tg 384 rfl rfl, tg 385 rfl rfl, tg 386 rfl rfl, ⟨_, _, rfl⟩⟩, rfl, by decide +kernel, Nat.le_of_ble_eq_true rfl⟩ : okM 13 (30, 39, 0, 0)) <|
  allm (⟨⟨tg 531 rfl rfl, tg 532 rfl rfl⟩, rfl, by decide +kernel, Nat.le_of_ble_eq_true rfl⟩ : okM 13 (41, 215, 2, 1)) <|
  allm (⟨⟨tg 782 rfl rfl, tg 783 rfl rfl, tg 784 rfl rfl, ⟨_, _, rfl⟩⟩, rfl, by decide +kernel, Nat.le_of_ble_eq_true rfl⟩ : okM 13 (79, 65, 1, 0)) <|
  allm (⟨⟨tg 885 rfl rfl, tg 886 rfl rfl, tg 887 rfl rfl, ⟨_, _, rfl⟩⟩, rfl, by decide +kernel, Nat.le_of_ble_eq_true rfl⟩ : okM 13 (82, 176, 4, 0)) <|
  allm (⟨⟨tg 935 rfl rfl, tg 936 rfl rfl⟩, rfl, by decide +kernel, Nat.le_of_ble_eq_true rfl⟩ : okM 13 (86, 217, 1, 1)) <|
  allm (⟨⟨tg 938 rfl rfl, tg 939 rfl rfl, tg 940 rfl rfl, ⟨_, _, rfl⟩⟩, rfl, by decide +kernel, Nat.le_of_ble_eq_true rfl⟩ : okM 13 (89, 165, 3, 0)) <|
  allm (⟨⟨tg 947 rfl rfl, tg 948 rfl rfl, tg 949 rfl rfl, ⟨_, _, rfl⟩⟩, rfl, by decide +kernel, Nat.le_of_ble_eq_true rfl⟩ : okM 13 (93, 168, 1, 0)) <|
  allm (⟨⟨tg 960 rfl rfl, tg 961 rfl rfl, tg 962 rfl rfl, ⟨_, _, rfl⟩⟩, rfl, by decide +kernel, Nat.le_of_ble_eq_true rfl⟩ : okM 13 (96, 170, 2, 0)) <|
  allm (⟨⟨tg 965 rfl rfl, tg 966 rfl rfl, tg 967 rfl rfl, ⟨_, _, rfl⟩⟩, rfl, by decide +kernel, Nat.le_of_ble_eq_true rfl⟩ : okM 13 (100, 172, 2, 0)) <|
  allm (⟨⟨tg 969 rfl rfl, tg 970 rfl rfl, tg 971 rfl rfl, ⟨_, _, rfl⟩⟩, rfl, by decide +kernel, Nat.le_of_ble_eq_true rfl⟩ : okM 13 (103, 174, 2, 0)) <|
  allm (⟨⟨tg 973 rfl rfl, tg 974 rfl rfl, tg 975 rfl rfl, ⟨_, _, rfl⟩⟩, rfl, by decide +kernel, Nat.le_of_ble_eq_true rfl⟩ : okM 13 (106, 181, 1, 0)) <|
  allm (⟨⟨tg 1034 rfl rfl, tg 1035 rfl rfl, tg 1036 rfl rfl, ⟨_, _, rfl⟩⟩, rfl, by decide +kernel, Nat.le_of_ble_eq_true rfl⟩ : okM 13 (109, 188, 2, 0)) <|
  allm (⟨⟨tg 1050 rfl rfl, tg 1051 rfl rfl, tg 1052 rfl rfl, ⟨_, _, rfl⟩⟩, rfl, by decide +kernel, Nat.le_of_ble_eq_true rfl⟩ : okM 13 (112, 193, 1, 0)) <|
  allm (⟨⟨tg 1066 rfl rfl, tg 1067 rfl rfl, tg 1068 rfl rfl, ⟨_, _, rfl⟩⟩, rfl, by decide +kernel, Nat.le_of_ble_eq_true rfl⟩ : okM 13 (115, 185, 2, 0)) <|
  allm (⟨⟨tg 1082 rfl rfl, tg 1083 rfl rfl, tg 1084 rfl rfl, ⟨_, _, rfl⟩⟩, rfl, by decide +kernel, Nat.le_of_ble_eq_true rfl⟩ : okM 13 (118, 195, 1, 0)) <|
  allm (⟨⟨tg 1086 rfl rfl, tg 1087 rfl rfl, tg 1088 rfl rfl, ⟨_, _, rfl⟩⟩, rfl, by decide +kernel, Nat.le_of_ble_eq_true rfl⟩ : okM 13 (121, 197, 1, 0)) <|
  allm (⟨⟨tg 1090 rfl rfl, tg 1091 rfl rfl, tg 1092 rfl rfl, ⟨_, _, rfl⟩⟩, rfl, by decide +kernel, Nat.le_of_ble_eq_true rfl⟩ : okM 13 (124, 199, 1, 0)) <|
  allm (⟨⟨tg 1094 rfl rfl, tg 1095 rfl rfl, tg 1096 rfl rfl, ⟨_, _, rfl⟩⟩, rfl, by decide +kernel, Nat.le_of_ble_eq_true rfl⟩ : okM 13 (127, 201, 1, 0)) <|
  allm (⟨⟨tg 1115 rfl rfl, tg 1116 rfl rfl, tg 1117 rfl rfl, ⟨_, _, rfl⟩⟩, rfl, by decide +kernel, Nat.le_of_ble_eq_true rfl⟩ : okM 13 (130, 178, 1, 0)) <|
  allm (⟨⟨tg 1121 rfl rfl, tg 1122 rfl rfl, tg 1123 rfl rfl, ⟨_, _, rfl⟩⟩, rfl, by decide +kernel, Nat.le_of_ble_eq_true rfl⟩ : okM 13 (133, 56, 0, 0)) <|
  allm (⟨⟨tg 1135 rfl rfl, tg 1136 rfl rfl, tg 1137 rfl rfl, ⟨_, _, rfl⟩⟩, rfl, by decide +kernel, Nat.le_of_ble_eq_true rfl⟩ : okM 13 (136, 158, 2, 0)) <|
  allm (⟨⟨tg 1144 rfl rfl, tg 1145 rfl rfl, tg 1146 rfl rfl, ⟨_, _, rfl⟩⟩, rfl, by decide +kernel, Nat.le_of_ble_eq_true rfl⟩ : okM 13 (141, 69, 2, 0)) <|
  allm (⟨⟨tg 1154 rfl rfl, tg 1155 rfl rfl, tg 1156 rfl rfl, ⟨_, _, rfl⟩⟩, rfl, by decide +kernel, Nat.le_of_ble_eq_true rfl⟩ : okM 13 (144, 74, 2, 0)) <|
  allm (⟨⟨tg 1166 rfl rfl, tg 1167 rfl rfl, tg 1168 rfl rfl, ⟨_, _, rfl⟩⟩, rfl, by decide +kernel, Nat.le_of_ble_eq_true rfl⟩ : okM 13 (147, 85, 2, 0)) <|
  allm (⟨⟨tg 1244 rfl rfl, tg 1245 rfl rfl⟩, rfl, by decide +kernel, Nat.le_of_ble_eq_true rfl⟩ : okM 13 (150, 219, 3, 1)) <|
  allm (⟨⟨tg 1213 rfl rfl, tg 1214 rfl rfl, tg 1215 rfl rfl, ⟨_, _, rfl⟩⟩, rfl, by decide +kernel, Nat.le_of_ble_eq_true rfl⟩ : okM 13 (154, 104, 2, 0)) <|
  allm (⟨⟨tg 1237 rfl rfl, tg 1238 rfl rfl, tg 1239 rfl rfl, ⟨_, _, rfl⟩⟩, rfl, by decide +kernel, Nat.le_of_ble_eq_true rfl⟩ : okM 13 (157, 79, 3, 0)) <|
  allm (⟨⟨tg 1241 rfl rfl, tg 1242 rfl rfl⟩, rfl, by decide +kernel, Nat.le_of_ble_eq_true rfl⟩ : okM 13 (161, 220, 3, 1)) <|
  allm (⟨⟨tg 1250 rfl rfl, tg 1251 rfl rfl, tg 1252 rfl rfl, ⟨_, _, rfl⟩⟩, rfl, by decide +kernel, Nat.le_of_ble_eq_true rfl⟩ : okM 13 (165, 108, 1, 0)) <|
  allm (⟨⟨tg 1259 rfl rfl, tg 1260 rfl rfl, tg 1261 rfl rfl, ⟨_, _, rfl⟩⟩, rfl, by decide +kernel, Nat.le_of_ble_eq_true rfl⟩ : okM 13 (168, 110, 1, 0)) <|
  allm (⟨⟨tg 1263 rfl rfl, tg 1264 rfl rfl, tg 1265 rfl rfl, ⟨_, _, rfl⟩⟩, rfl, by decide +kernel, Nat.le_of_ble_eq_true rfl⟩ : okM 13 (171, 93, 1, 0)) <|
  allm (⟨⟨tg 1280 rfl rfl, tg 1281 rfl rfl, tg 1282 rfl rfl, ⟨_, _, rfl⟩⟩, rfl, by decide +kernel, Nat.le_of_ble_eq_true rfl⟩ : okM 13 (174, 97, 3, 0)) <|
  allm (⟨⟨tg 1293 rfl rfl, tg 1294 rfl rfl, tg 1295 rfl rfl, ⟨_, _, rfl⟩⟩, rfl, by decide +kernel, Nat.le_of_ble_eq_true rfl⟩ : okM 13 (177, 113, 1, 0)) <|
  allm (⟨⟨tg 1301 rfl rfl, tg 1302 rfl rfl, tg 1303 rfl rfl, ⟨_, _, rfl⟩⟩, rfl, by decide +kernel, Nat.le_of_ble_eq_true rfl⟩ : okM 13 (181, 88, 1, 0)) <|
  allm (⟨⟨tg 1311 rfl rfl, tg 1312 rfl rfl, tg 1313 rfl rfl, ⟨_, _, rfl⟩⟩, rfl, by decide +kernel, Nat.le_of_ble_eq_true rfl⟩ : okM 13 (184, 155, 1, 0)) <|
  allm (⟨⟨tg 1325 rfl rfl, tg 1326 rfl rfl, tg 1327 rfl rfl, ⟨_, _, rfl⟩⟩, rfl, by decide +kernel, Nat.le_of_ble_eq_true rfl⟩ : okM 13 (187, 127, 1, 0)) <|
  allm (⟨⟨tg 1329 rfl rfl, tg 1330 rfl rfl, tg 1331 rfl rfl, ⟨_, _, rfl⟩⟩, rfl, by decide +kernel, Nat.le_of_ble_eq_true rfl⟩ : okM 13 (190, 131, 1, 0)) <|
  allm (⟨⟨tg 1337 rfl rfl, tg 1338 rfl rfl, tg 1339 rfl rfl, ⟨_, _, rfl⟩⟩, rfl, by decide +kernel, Nat.le_of_ble_eq_true rfl⟩ : okM 13 (193, 134, 1, 0)) <|
  allm (⟨⟨tg 1345 rfl rfl, tg 1346 rfl rfl, tg 1347 rfl rfl, ⟨_, _, rfl⟩⟩, rfl, by decide +kernel, Nat.le_of_ble_eq_true rfl⟩ : okM 13 (196, 136, 1, 0)) <|
  allm (⟨⟨tg 1349 rfl rfl, tg 1350 rfl rfl, tg 1351 rfl rfl, ⟨_, _, rfl⟩⟩, rfl, by decide +kernel, Nat.le_of_ble_eq_true rfl⟩ : okM 13 (199, 125, 1, 0)) <|
  allm (⟨⟨tg 1353 rfl rfl, tg 1354 rfl rfl, tg 1355 rfl rfl, ⟨_, _, rfl⟩⟩, rfl, by decide +kernel, Nat.le_of_ble_eq_true rfl⟩ : okM 13 (202, 138, 1, 0)) <|
  allm (⟨⟨tg 1199 rfl rfl, tg 1200 rfl rfl, tg 1201 rfl rfl, ⟨_, _, rfl⟩⟩, rfl, by decide +kernel, Nat.le_of_ble_eq_true rfl⟩ : okM 13 (205, 211, 1, 0)) <|
  allm (⟨⟨tg 1203 rfl rfl, tg 1204 rfl rfl, tg 1205 rfl rfl, ⟨_, _, rfl⟩⟩, rfl, by decide +kernel, Nat.le_of_ble_eq_true rfl⟩ : okM 13 (208, 213, 1, 0)) <|
  allm (⟨⟨tg 1132 rfl rfl, tg 1133 rfl rfl⟩, rfl, by decide +kernel, Nat.le_of_ble_eq_true rfl⟩ : okM 13 (211, 225, 1, 1)) <|
  allm (⟨⟨tg 1174 rfl rfl, tg 1175 rfl rfl, tg 1176 rfl rfl, ⟨_, _, rfl⟩⟩, rfl, by decide +kernel, Nat.le_of_ble_eq_true rfl⟩ : okM 13 (215, 160, 1, 0)) <|
  allm (⟨⟨tg 1182 rfl rfl, tg 1183 rfl rfl, tg 1184 rfl rfl, ⟨_, _, rfl⟩⟩, rfl, by decide +kernel, Nat.le_of_ble_eq_true rfl⟩ : okM 13 (218, 162, 1, 0)) <|
  allm (⟨⟨tg 1186 rfl rfl, tg 1187 rfl rfl, tg 1188 rfl rfl, ⟨_, _, rfl⟩⟩, rfl, by decide +kernel, Nat.le_of_ble_eq_true rfl⟩ : okM 13 (221, 49, 0, 0)) <|
  allm (⟨⟨tg 1190 rfl rfl, tg 1191 rfl rfl, tg 1192 rfl rfl, ⟨_, _, rfl⟩⟩, rfl, by decide +kernel, Nat.le_of_ble_eq_true rfl⟩ : okM 13 (224, 50, 0, 0)) <|
  allm (⟨⟨tg 1195 rfl rfl, tg 1196 rfl rfl, tg 1197 rfl rfl, ⟨_, _, rfl⟩⟩, rfl, by decide +kernel, Nat.le_of_ble_eq_true rfl⟩ : okM 13 (227, 144, 1, 0)) <|
  allm (⟨⟨tg 1210 rfl rfl, tg 1211 rfl rfl⟩, rfl, by decide +kernel, Nat.le_of_ble_eq_true rfl⟩ : okM 13 (230, 221, 1, 1)) <|
  allm (⟨⟨tg 1247 rfl rfl, tg 1248 rfl rfl⟩, rfl, by decide +kernel, Nat.le_of_ble_eq_true rfl⟩ : okM 13 (234, 222, 2, 1)) <|
  allm (⟨⟨tg 1322 rfl rfl, tg 1323 rfl rfl⟩, rfl, by decide +kernel, Nat.le_of_ble_eq_true rfl⟩ : okM 13 (238, 223, 2, 1)) <|
  allm (⟨⟨tg 57 rfl rfl, tg 58 rfl rfl, rfl, rfl⟩, rfl, by decide +kernel, Nat.le_of_ble_eq_true rfl⟩ : okM 13 (241, 8, 0, 2)) <|
  allm (⟨⟨tg 324 rfl rfl, tg 325 rfl rfl⟩, rfl, by decide +kernel, Nat.le_of_ble_eq_true rfl⟩ : okM 13 (246, 216, 2, 1)) <|
  allm (⟨⟨tg 779 rfl rfl, tg 780 rfl rfl⟩, rfl, by decide +kernel, Nat.le_of_ble_eq_true rfl⟩ : okM 13 (249, 218, 3, 1)) <|
  allm (⟨⟨tg 1207 rfl rfl, tg 1208 rfl rfl⟩, rfl, by decide +kernel, Nat.le_of_ble_eq_true rfl⟩ : okM 13 (253, 224, 1, 1)) <|
  okM_13_1
theorem okM_13 : ∀ e ∈ kM 13, okM 13 e := okM_13_0
theorem okM_all : ∀ c, c < 14 → ∀ e ∈ kM c, okM c e := lt_s (lt_s (lt_s (lt_s (lt_s (lt_s (lt_s (lt_s (lt_s (lt_s (lt_s (lt_s (lt_s (lt_s (lt_0) okM_0) okM_1) okM_2) okM_3) okM_4) okM_5) okM_6) okM_7) okM_8) okM_9) okM_10) okM_11) okM_12) okM_13
/-- the word of a method's code -/
def mWd (M : Nat) : Cond := match mH M with
  | [] => .code (mY M) (mB M) (mN M) (mR M)
  | _ => .codeWith (mY M) (mB M) (mN M) (mR M) ((mH M).map (fun h => (h.1, h.2.1, h.2.2.1, h.2.2.2.1)))
def okY (M : Nat) : Prop := mWd M ∈ TG ∧ Cond.initialized (mY M).cls ∈ TG ∧ (mY M).cls = cN (mC M) ∧ plainName (mY M).cls = true ∧ ((mY M).cls ≠ "java/lang/invoke/MethodHandle" ∧ (mY M).cls ≠ "java/lang/invoke/VarHandle")
theorem pn_8 : plainName "PinBarrel" = true ∧ ("PinBarrel" ≠ "java/lang/invoke/MethodHandle" ∧ "PinBarrel" ≠ "java/lang/invoke/VarHandle") := by decide +kernel
theorem pn_0 : plainName "PinBarrel$Box" = true ∧ ("PinBarrel$Box" ≠ "java/lang/invoke/MethodHandle" ∧ "PinBarrel$Box" ≠ "java/lang/invoke/VarHandle") := by decide +kernel
theorem pn_1 : plainName "PinBarrel$History" = true ∧ ("PinBarrel$History" ≠ "java/lang/invoke/MethodHandle" ∧ "PinBarrel$History" ≠ "java/lang/invoke/VarHandle") := by decide +kernel
theorem pn_2 : plainName "PinBarrel$Notes" = true ∧ ("PinBarrel$Notes" ≠ "java/lang/invoke/MethodHandle" ∧ "PinBarrel$Notes" ≠ "java/lang/invoke/VarHandle") := by decide +kernel
theorem pn_3 : plainName "PinBarrel$Play" = true ∧ ("PinBarrel$Play" ≠ "java/lang/invoke/MethodHandle" ∧ "PinBarrel$Play" ≠ "java/lang/invoke/VarHandle") := by decide +kernel
theorem pn_4 : plainName "PinBarrel$Reader" = true ∧ ("PinBarrel$Reader" ≠ "java/lang/invoke/MethodHandle" ∧ "PinBarrel$Reader" ≠ "java/lang/invoke/VarHandle") := by decide +kernel
theorem pn_5 : plainName "PinBarrel$Ring" = true ∧ ("PinBarrel$Ring" ≠ "java/lang/invoke/MethodHandle" ∧ "PinBarrel$Ring" ≠ "java/lang/invoke/VarHandle") := by decide +kernel
theorem pn_6 : plainName "PinBarrel$Search" = true ∧ ("PinBarrel$Search" ≠ "java/lang/invoke/MethodHandle" ∧ "PinBarrel$Search" ≠ "java/lang/invoke/VarHandle") := by decide +kernel
theorem pn_7 : plainName "PinBarrel$Writer" = true ∧ ("PinBarrel$Writer" ≠ "java/lang/invoke/MethodHandle" ∧ "PinBarrel$Writer" ≠ "java/lang/invoke/VarHandle") := by decide +kernel
theorem pn_13 : plainName "PinBarrelLaw" = true ∧ ("PinBarrelLaw" ≠ "java/lang/invoke/MethodHandle" ∧ "PinBarrelLaw" ≠ "java/lang/invoke/VarHandle") := by decide +kernel
theorem pn_10 : plainName "java/lang/Integer" = true ∧ ("java/lang/Integer" ≠ "java/lang/invoke/MethodHandle" ∧ "java/lang/Integer" ≠ "java/lang/invoke/VarHandle") := by decide +kernel
theorem pn_11 : plainName "java/lang/Long" = true ∧ ("java/lang/Long" ≠ "java/lang/invoke/MethodHandle" ∧ "java/lang/Long" ≠ "java/lang/invoke/VarHandle") := by decide +kernel
theorem pn_12 : plainName "java/util/Arrays" = true ∧ ("java/util/Arrays" ≠ "java/lang/invoke/MethodHandle" ∧ "java/util/Arrays" ≠ "java/lang/invoke/VarHandle") := by decide +kernel
set_option maxRecDepth 100000 in
theorem okY_0 : okY 0 := ⟨tg 73 rfl rfl, tg 30 rfl rfl, rfl, pn_2⟩
set_option maxRecDepth 100000 in
theorem okY_1 : okY 1 := ⟨tg 111 rfl rfl, tg 32 rfl rfl, rfl, pn_12⟩
set_option maxRecDepth 100000 in
theorem okY_2 : okY 2 := ⟨tg 107 rfl rfl, tg 31 rfl rfl, rfl, pn_3⟩
set_option maxRecDepth 100000 in
theorem okY_3 : okY 3 := ⟨tg 67 rfl rfl, tg 29 rfl rfl, rfl, pn_0⟩
set_option maxRecDepth 100000 in
theorem okY_4 : okY 4 := ⟨tg 206 rfl rfl, tg 33 rfl rfl, rfl, pn_1⟩
set_option maxRecDepth 100000 in
theorem okY_5 : okY 5 := ⟨tg 226 rfl rfl, tg 34 rfl rfl, rfl, pn_4⟩
set_option maxRecDepth 100000 in
theorem okY_6 : okY 6 := ⟨tg 257 rfl rfl, tg 35 rfl rfl, rfl, pn_7⟩
set_option maxRecDepth 100000 in
theorem okY_7 : okY 7 := ⟨tg 270 rfl rfl, tg 36 rfl rfl, rfl, pn_6⟩
set_option maxRecDepth 100000 in
theorem okY_8 : okY 8 := ⟨tg 59 rfl rfl, tg 28 rfl rfl, rfl, pn_8⟩
set_option maxRecDepth 100000 in
theorem okY_9 : okY 9 := ⟨tg 382 rfl rfl, tg 34 rfl rfl, rfl, pn_4⟩
set_option maxRecDepth 100000 in
theorem okY_10 : okY 10 := ⟨tg 378 rfl rfl, tg 28 rfl rfl, rfl, pn_8⟩
set_option maxRecDepth 100000 in
theorem okY_11 : okY 11 := ⟨tg 403 rfl rfl, tg 34 rfl rfl, rfl, pn_4⟩
set_option maxRecDepth 100000 in
theorem okY_12 : okY 12 := ⟨tg 399 rfl rfl, tg 34 rfl rfl, rfl, pn_4⟩
set_option maxRecDepth 100000 in
theorem okY_13 : okY 13 := ⟨tg 408 rfl rfl, tg 34 rfl rfl, rfl, pn_4⟩
set_option maxRecDepth 100000 in
theorem okY_14 : okY 14 := ⟨tg 414 rfl rfl, tg 34 rfl rfl, rfl, pn_4⟩
set_option maxRecDepth 100000 in
theorem okY_15 : okY 15 := ⟨tg 418 rfl rfl, tg 34 rfl rfl, rfl, pn_4⟩
set_option maxRecDepth 100000 in
theorem okY_16 : okY 16 := ⟨tg 428 rfl rfl, tg 32 rfl rfl, rfl, pn_12⟩
set_option maxRecDepth 100000 in
theorem okY_17 : okY 17 := ⟨tg 436 rfl rfl, tg 31 rfl rfl, rfl, pn_3⟩
set_option maxRecDepth 100000 in
theorem okY_18 : okY 18 := ⟨tg 432 rfl rfl, tg 31 rfl rfl, rfl, pn_3⟩
set_option maxRecDepth 100000 in
theorem okY_19 : okY 19 := ⟨tg 425 rfl rfl, tg 29 rfl rfl, rfl, pn_0⟩
set_option maxRecDepth 100000 in
theorem okY_20 : okY 20 := ⟨tg 395 rfl rfl, tg 34 rfl rfl, rfl, pn_4⟩
set_option maxRecDepth 100000 in
theorem okY_21 : okY 21 := ⟨tg 445 rfl rfl, tg 34 rfl rfl, rfl, pn_4⟩
set_option maxRecDepth 100000 in
theorem okY_22 : okY 22 := ⟨tg 457 rfl rfl, tg 35 rfl rfl, rfl, pn_7⟩
set_option maxRecDepth 100000 in
theorem okY_23 : okY 23 := ⟨tg 454 rfl rfl, tg 34 rfl rfl, rfl, pn_4⟩
set_option maxRecDepth 100000 in
theorem okY_24 : okY 24 := ⟨tg 473 rfl rfl, tg 29 rfl rfl, rfl, pn_0⟩
set_option maxRecDepth 100000 in
theorem okY_25 : okY 25 := ⟨tg 450 rfl rfl, tg 34 rfl rfl, rfl, pn_4⟩
set_option maxRecDepth 100000 in
theorem okY_26 : okY 26 := ⟨tg 483 rfl rfl, tg 30 rfl rfl, rfl, pn_2⟩
set_option maxRecDepth 100000 in
theorem okY_27 : okY 27 := ⟨tg 479 rfl rfl, tg 34 rfl rfl, rfl, pn_4⟩
set_option maxRecDepth 100000 in
theorem okY_28 : okY 28 := ⟨tg 496 rfl rfl, tg 29 rfl rfl, rfl, pn_0⟩
set_option maxRecDepth 100000 in
theorem okY_29 : okY 29 := ⟨tg 500 rfl rfl, tg 29 rfl rfl, rfl, pn_0⟩
set_option maxRecDepth 100000 in
theorem okY_30 : okY 30 := ⟨tg 505 rfl rfl, tg 29 rfl rfl, rfl, pn_0⟩
set_option maxRecDepth 100000 in
theorem okY_31 : okY 31 := ⟨tg 492 rfl rfl, tg 29 rfl rfl, rfl, pn_0⟩
set_option maxRecDepth 100000 in
theorem okY_32 : okY 32 := ⟨tg 488 rfl rfl, tg 34 rfl rfl, rfl, pn_4⟩
set_option maxRecDepth 100000 in
theorem okY_33 : okY 33 := ⟨tg 440 rfl rfl, tg 34 rfl rfl, rfl, pn_4⟩
set_option maxRecDepth 100000 in
theorem okY_34 : okY 34 := ⟨tg 391 rfl rfl, tg 34 rfl rfl, rfl, pn_4⟩
set_option maxRecDepth 100000 in
theorem okY_35 : okY 35 := ⟨tg 516 rfl rfl, tg 30 rfl rfl, rfl, pn_2⟩
set_option maxRecDepth 100000 in
theorem okY_36 : okY 36 := ⟨tg 521 rfl rfl, tg 31 rfl rfl, rfl, pn_3⟩
set_option maxRecDepth 100000 in
theorem okY_37 : okY 37 := ⟨tg 509 rfl rfl, tg 29 rfl rfl, rfl, pn_0⟩
set_option maxRecDepth 100000 in
theorem okY_38 : okY 38 := ⟨tg 526 rfl rfl, tg 33 rfl rfl, rfl, pn_1⟩
set_option maxRecDepth 100000 in
theorem okY_39 : okY 39 := ⟨tg 387 rfl rfl, tg 28 rfl rfl, rfl, pn_8⟩
set_option maxRecDepth 100000 in
theorem okY_40 : okY 40 := ⟨tg 816 rfl rfl, tg 49 rfl rfl, rfl, pn_5⟩
set_option maxRecDepth 100000 in
theorem okY_41 : okY 41 := ⟨tg 816 rfl rfl, tg 49 rfl rfl, rfl, pn_5⟩
set_option maxRecDepth 100000 in
theorem okY_42 : okY 42 := ⟨tg 933 rfl rfl, tg 49 rfl rfl, rfl, pn_5⟩
set_option maxRecDepth 100000 in
theorem okY_43 : okY 43 := ⟨tg 930 rfl rfl, tg 29 rfl rfl, rfl, pn_0⟩
set_option maxRecDepth 100000 in
theorem okY_44 : okY 44 := ⟨tg 1017 rfl rfl, tg 29 rfl rfl, rfl, pn_0⟩
set_option maxRecDepth 100000 in
theorem okY_45 : okY 45 := ⟨tg 1112 rfl rfl, tg 31 rfl rfl, rfl, pn_3⟩
set_option maxRecDepth 100000 in
theorem okY_46 : okY 46 := ⟨tg 1108 rfl rfl, tg 31 rfl rfl, rfl, pn_3⟩
set_option maxRecDepth 100000 in
theorem okY_47 : okY 47 := ⟨tg 1049 rfl rfl, tg 49 rfl rfl, rfl, pn_5⟩
set_option maxRecDepth 100000 in
theorem okY_48 : okY 48 := ⟨tg 1102 rfl rfl, tg 29 rfl rfl, rfl, pn_0⟩
set_option maxRecDepth 100000 in
theorem okY_49 : okY 49 := ⟨tg 1189 rfl rfl, tg 28 rfl rfl, rfl, pn_8⟩
set_option maxRecDepth 100000 in
theorem okY_50 : okY 50 := ⟨tg 1193 rfl rfl, tg 28 rfl rfl, rfl, pn_8⟩
set_option maxRecDepth 100000 in
theorem okY_51 : okY 51 := ⟨tg 816 rfl rfl, tg 49 rfl rfl, rfl, pn_5⟩
set_option maxRecDepth 100000 in
theorem okY_52 : okY 52 := ⟨tg 1181 rfl rfl, tg 31 rfl rfl, rfl, pn_3⟩
set_option maxRecDepth 100000 in
theorem okY_53 : okY 53 := ⟨tg 816 rfl rfl, tg 49 rfl rfl, rfl, pn_5⟩
set_option maxRecDepth 100000 in
theorem okY_54 : okY 54 := ⟨tg 816 rfl rfl, tg 49 rfl rfl, rfl, pn_5⟩
set_option maxRecDepth 100000 in
theorem okY_55 : okY 55 := ⟨tg 1128 rfl rfl, tg 33 rfl rfl, rfl, pn_1⟩
set_option maxRecDepth 100000 in
theorem okY_56 : okY 56 := ⟨tg 1124 rfl rfl, tg 28 rfl rfl, rfl, pn_8⟩
set_option maxRecDepth 100000 in
theorem okY_57 : okY 57 := ⟨tg 796 rfl rfl, tg 48 rfl rfl, rfl, pn_11⟩
set_option maxRecDepth 100000 in
theorem okY_58 : okY 58 := ⟨tg 793 rfl rfl, tg 29 rfl rfl, rfl, pn_0⟩
set_option maxRecDepth 100000 in
theorem okY_59 : okY 59 := ⟨tg 789 rfl rfl, tg 29 rfl rfl, rfl, pn_0⟩
set_option maxRecDepth 100000 in
theorem okY_60 : okY 60 := ⟨tg 816 rfl rfl, tg 49 rfl rfl, rfl, pn_5⟩
set_option maxRecDepth 100000 in
theorem okY_61 : okY 61 := ⟨tg 813 rfl rfl, tg 49 rfl rfl, rfl, pn_5⟩
set_option maxRecDepth 100000 in
theorem okY_62 : okY 62 := ⟨tg 810 rfl rfl, tg 49 rfl rfl, rfl, pn_5⟩
set_option maxRecDepth 100000 in
theorem okY_63 : okY 63 := ⟨tg 807 rfl rfl, tg 29 rfl rfl, rfl, pn_0⟩
set_option maxRecDepth 100000 in
theorem okY_64 : okY 64 := ⟨tg 803 rfl rfl, tg 29 rfl rfl, rfl, pn_0⟩
set_option maxRecDepth 100000 in
theorem okY_65 : okY 65 := ⟨tg 785 rfl rfl, tg 28 rfl rfl, rfl, pn_8⟩
set_option maxRecDepth 100000 in
theorem okY_66 : okY 66 := ⟨tg 816 rfl rfl, tg 49 rfl rfl, rfl, pn_5⟩
set_option maxRecDepth 100000 in
theorem okY_67 : okY 67 := ⟨tg 905 rfl rfl, tg 28 rfl rfl, rfl, pn_8⟩
set_option maxRecDepth 100000 in
theorem okY_68 : okY 68 := ⟨tg 1152 rfl rfl, tg 29 rfl rfl, rfl, pn_0⟩
set_option maxRecDepth 100000 in
theorem okY_69 : okY 69 := ⟨tg 1147 rfl rfl, tg 28 rfl rfl, rfl, pn_8⟩
set_option maxRecDepth 100000 in
theorem okY_70 : okY 70 := ⟨tg 816 rfl rfl, tg 49 rfl rfl, rfl, pn_5⟩
set_option maxRecDepth 100000 in
theorem okY_71 : okY 71 := ⟨tg 954 rfl rfl, tg 28 rfl rfl, rfl, pn_8⟩
set_option maxRecDepth 100000 in
theorem okY_72 : okY 72 := ⟨tg 1165 rfl rfl, tg 30 rfl rfl, rfl, pn_2⟩
set_option maxRecDepth 100000 in
theorem okY_73 : okY 73 := ⟨tg 1161 rfl rfl, tg 29 rfl rfl, rfl, pn_0⟩
set_option maxRecDepth 100000 in
theorem okY_74 : okY 74 := ⟨tg 1157 rfl rfl, tg 28 rfl rfl, rfl, pn_8⟩
set_option maxRecDepth 100000 in
theorem okY_75 : okY 75 := ⟨tg 816 rfl rfl, tg 49 rfl rfl, rfl, pn_5⟩
set_option maxRecDepth 100000 in
theorem okY_76 : okY 76 := ⟨tg 896 rfl rfl, tg 28 rfl rfl, rfl, pn_8⟩
set_option maxRecDepth 100000 in
theorem okY_77 : okY 77 := ⟨tg 892 rfl rfl, tg 28 rfl rfl, rfl, pn_8⟩
set_option maxRecDepth 100000 in
theorem okY_78 : okY 78 := ⟨tg 901 rfl rfl, tg 28 rfl rfl, rfl, pn_8⟩
set_option maxRecDepth 100000 in
theorem okY_79 : okY 79 := ⟨tg 1240 rfl rfl, tg 28 rfl rfl, rfl, pn_8⟩
set_option maxRecDepth 100000 in
theorem okY_80 : okY 80 := ⟨tg 816 rfl rfl, tg 49 rfl rfl, rfl, pn_5⟩
set_option maxRecDepth 100000 in
theorem okY_81 : okY 81 := ⟨tg 1228 rfl rfl, tg 49 rfl rfl, rfl, pn_5⟩
set_option maxRecDepth 100000 in
theorem okY_82 : okY 82 := ⟨tg 816 rfl rfl, tg 49 rfl rfl, rfl, pn_5⟩
set_option maxRecDepth 100000 in
theorem okY_83 : okY 83 := ⟨tg 816 rfl rfl, tg 49 rfl rfl, rfl, pn_5⟩
set_option maxRecDepth 100000 in
theorem okY_84 : okY 84 := ⟨tg 1173 rfl rfl, tg 29 rfl rfl, rfl, pn_0⟩
set_option maxRecDepth 100000 in
theorem okY_85 : okY 85 := ⟨tg 1169 rfl rfl, tg 28 rfl rfl, rfl, pn_8⟩
set_option maxRecDepth 100000 in
theorem okY_86 : okY 86 := ⟨tg 816 rfl rfl, tg 49 rfl rfl, rfl, pn_5⟩
set_option maxRecDepth 100000 in
theorem okY_87 : okY 87 := ⟨tg 1307 rfl rfl, tg 47 rfl rfl, rfl, pn_10⟩
set_option maxRecDepth 100000 in
theorem okY_88 : okY 88 := ⟨tg 1304 rfl rfl, tg 28 rfl rfl, rfl, pn_8⟩
set_option maxRecDepth 100000 in
theorem okY_89 : okY 89 := ⟨tg 816 rfl rfl, tg 49 rfl rfl, rfl, pn_5⟩
set_option maxRecDepth 100000 in
theorem okY_90 : okY 90 := ⟨tg 1277 rfl rfl, tg 49 rfl rfl, rfl, pn_5⟩
set_option maxRecDepth 100000 in
theorem okY_91 : okY 91 := ⟨tg 1274 rfl rfl, tg 29 rfl rfl, rfl, pn_0⟩
set_option maxRecDepth 100000 in
theorem okY_92 : okY 92 := ⟨tg 1270 rfl rfl, tg 29 rfl rfl, rfl, pn_0⟩
set_option maxRecDepth 100000 in
theorem okY_93 : okY 93 := ⟨tg 1266 rfl rfl, tg 28 rfl rfl, rfl, pn_8⟩
set_option maxRecDepth 100000 in
theorem okY_94 : okY 94 := ⟨tg 816 rfl rfl, tg 49 rfl rfl, rfl, pn_5⟩
set_option maxRecDepth 100000 in
theorem okY_95 : okY 95 := ⟨tg 1287 rfl rfl, tg 29 rfl rfl, rfl, pn_0⟩
set_option maxRecDepth 100000 in
theorem okY_96 : okY 96 := ⟨tg 1291 rfl rfl, tg 29 rfl rfl, rfl, pn_0⟩
set_option maxRecDepth 100000 in
theorem okY_97 : okY 97 := ⟨tg 1283 rfl rfl, tg 28 rfl rfl, rfl, pn_8⟩
set_option maxRecDepth 100000 in
theorem okY_98 : okY 98 := ⟨tg 816 rfl rfl, tg 49 rfl rfl, rfl, pn_5⟩
set_option maxRecDepth 100000 in
theorem okY_99 : okY 99 := ⟨tg 1020 rfl rfl, tg 49 rfl rfl, rfl, pn_5⟩
set_option maxRecDepth 100000 in
theorem okY_100 : okY 100 := ⟨tg 1224 rfl rfl, tg 29 rfl rfl, rfl, pn_0⟩
set_option maxRecDepth 100000 in
theorem okY_101 : okY 101 := ⟨tg 1220 rfl rfl, tg 29 rfl rfl, rfl, pn_0⟩
set_option maxRecDepth 100000 in
theorem okY_102 : okY 102 := ⟨tg 1232 rfl rfl, tg 29 rfl rfl, rfl, pn_0⟩
set_option maxRecDepth 100000 in
theorem okY_103 : okY 103 := ⟨tg 1236 rfl rfl, tg 29 rfl rfl, rfl, pn_0⟩
set_option maxRecDepth 100000 in
theorem okY_104 : okY 104 := ⟨tg 1216 rfl rfl, tg 28 rfl rfl, rfl, pn_8⟩
set_option maxRecDepth 100000 in
theorem okY_105 : okY 105 := ⟨tg 816 rfl rfl, tg 49 rfl rfl, rfl, pn_5⟩
set_option maxRecDepth 100000 in
theorem okY_106 : okY 106 := ⟨tg 1081 rfl rfl, tg 30 rfl rfl, rfl, pn_2⟩
set_option maxRecDepth 100000 in
theorem okY_107 : okY 107 := ⟨tg 1257 rfl rfl, tg 29 rfl rfl, rfl, pn_0⟩
set_option maxRecDepth 100000 in
theorem okY_108 : okY 108 := ⟨tg 1253 rfl rfl, tg 28 rfl rfl, rfl, pn_8⟩
set_option maxRecDepth 100000 in
theorem okY_109 : okY 109 := ⟨tg 816 rfl rfl, tg 49 rfl rfl, rfl, pn_5⟩
set_option maxRecDepth 100000 in
theorem okY_110 : okY 110 := ⟨tg 1262 rfl rfl, tg 28 rfl rfl, rfl, pn_8⟩
set_option maxRecDepth 100000 in
theorem okY_111 : okY 111 := ⟨tg 816 rfl rfl, tg 49 rfl rfl, rfl, pn_5⟩
set_option maxRecDepth 100000 in
theorem okY_112 : okY 112 := ⟨tg 1300 rfl rfl, tg 29 rfl rfl, rfl, pn_0⟩
set_option maxRecDepth 100000 in
theorem okY_113 : okY 113 := ⟨tg 1296 rfl rfl, tg 28 rfl rfl, rfl, pn_8⟩
set_option maxRecDepth 100000 in
theorem okY_114 : okY 114 := ⟨tg 816 rfl rfl, tg 49 rfl rfl, rfl, pn_5⟩
set_option maxRecDepth 100000 in
theorem okY_115 : okY 115 := ⟨tg 990 rfl rfl, tg 36 rfl rfl, rfl, pn_6⟩
set_option maxRecDepth 100000 in
theorem okY_116 : okY 116 := ⟨tg 997 rfl rfl, tg 36 rfl rfl, rfl, pn_6⟩
set_option maxRecDepth 100000 in
theorem okY_117 : okY 117 := ⟨tg 994 rfl rfl, tg 36 rfl rfl, rfl, pn_6⟩
set_option maxRecDepth 100000 in
theorem okY_118 : okY 118 := ⟨tg 984 rfl rfl, tg 36 rfl rfl, rfl, pn_6⟩
set_option maxRecDepth 100000 in
theorem okY_119 : okY 119 := ⟨tg 1000 rfl rfl, tg 36 rfl rfl, rfl, pn_6⟩
set_option maxRecDepth 100000 in
theorem okY_120 : okY 120 := ⟨tg 1008 rfl rfl, tg 36 rfl rfl, rfl, pn_6⟩
set_option maxRecDepth 100000 in
theorem okY_121 : okY 121 := ⟨tg 1004 rfl rfl, tg 36 rfl rfl, rfl, pn_6⟩
set_option maxRecDepth 100000 in
theorem okY_122 : okY 122 := ⟨tg 1013 rfl rfl, tg 36 rfl rfl, rfl, pn_6⟩
set_option maxRecDepth 100000 in
theorem okY_123 : okY 123 := ⟨tg 1024 rfl rfl, tg 36 rfl rfl, rfl, pn_6⟩
set_option maxRecDepth 100000 in
theorem okY_124 : okY 124 := ⟨tg 980 rfl rfl, tg 36 rfl rfl, rfl, pn_6⟩
set_option maxRecDepth 100000 in
theorem okY_125 : okY 125 := ⟨tg 1352 rfl rfl, tg 28 rfl rfl, rfl, pn_8⟩
set_option maxRecDepth 100000 in
theorem okY_126 : okY 126 := ⟨tg 816 rfl rfl, tg 49 rfl rfl, rfl, pn_5⟩
set_option maxRecDepth 100000 in
theorem okY_127 : okY 127 := ⟨tg 1328 rfl rfl, tg 28 rfl rfl, rfl, pn_8⟩
set_option maxRecDepth 100000 in
theorem okY_128 : okY 128 := ⟨tg 816 rfl rfl, tg 49 rfl rfl, rfl, pn_5⟩
set_option maxRecDepth 100000 in
theorem okY_129 : okY 129 := ⟨tg 1028 rfl rfl, tg 36 rfl rfl, rfl, pn_6⟩
set_option maxRecDepth 100000 in
theorem okY_130 : okY 130 := ⟨tg 1336 rfl rfl, tg 36 rfl rfl, rfl, pn_6⟩
set_option maxRecDepth 100000 in
theorem okY_131 : okY 131 := ⟨tg 1332 rfl rfl, tg 28 rfl rfl, rfl, pn_8⟩
set_option maxRecDepth 100000 in
theorem okY_132 : okY 132 := ⟨tg 816 rfl rfl, tg 49 rfl rfl, rfl, pn_5⟩
set_option maxRecDepth 100000 in
theorem okY_133 : okY 133 := ⟨tg 1344 rfl rfl, tg 36 rfl rfl, rfl, pn_6⟩
set_option maxRecDepth 100000 in
theorem okY_134 : okY 134 := ⟨tg 1340 rfl rfl, tg 28 rfl rfl, rfl, pn_8⟩
set_option maxRecDepth 100000 in
theorem okY_135 : okY 135 := ⟨tg 816 rfl rfl, tg 49 rfl rfl, rfl, pn_5⟩
set_option maxRecDepth 100000 in
theorem okY_136 : okY 136 := ⟨tg 1348 rfl rfl, tg 28 rfl rfl, rfl, pn_8⟩
set_option maxRecDepth 100000 in
theorem okY_137 : okY 137 := ⟨tg 816 rfl rfl, tg 49 rfl rfl, rfl, pn_5⟩
set_option maxRecDepth 100000 in
theorem okY_138 : okY 138 := ⟨tg 1356 rfl rfl, tg 28 rfl rfl, rfl, pn_8⟩
set_option maxRecDepth 100000 in
theorem okY_139 : okY 139 := ⟨tg 816 rfl rfl, tg 49 rfl rfl, rfl, pn_5⟩
set_option maxRecDepth 100000 in
theorem okY_140 : okY 140 := ⟨tg 816 rfl rfl, tg 49 rfl rfl, rfl, pn_5⟩
set_option maxRecDepth 100000 in
theorem okY_141 : okY 141 := ⟨tg 816 rfl rfl, tg 49 rfl rfl, rfl, pn_5⟩
set_option maxRecDepth 100000 in
theorem okY_142 : okY 142 := ⟨tg 816 rfl rfl, tg 49 rfl rfl, rfl, pn_5⟩
set_option maxRecDepth 100000 in
theorem okY_143 : okY 143 := ⟨tg 1041 rfl rfl, tg 29 rfl rfl, rfl, pn_0⟩
set_option maxRecDepth 100000 in
theorem okY_144 : okY 144 := ⟨tg 1198 rfl rfl, tg 28 rfl rfl, rfl, pn_8⟩
set_option maxRecDepth 100000 in
theorem okY_145 : okY 145 := ⟨tg 816 rfl rfl, tg 49 rfl rfl, rfl, pn_5⟩
set_option maxRecDepth 100000 in
theorem okY_146 : okY 146 := ⟨tg 945 rfl rfl, tg 28 rfl rfl, rfl, pn_8⟩
set_option maxRecDepth 100000 in
theorem okY_147 : okY 147 := ⟨tg 816 rfl rfl, tg 49 rfl rfl, rfl, pn_5⟩
set_option maxRecDepth 100000 in
theorem okY_148 : okY 148 := ⟨tg 816 rfl rfl, tg 49 rfl rfl, rfl, pn_5⟩
set_option maxRecDepth 100000 in
theorem okY_149 : okY 149 := ⟨tg 816 rfl rfl, tg 49 rfl rfl, rfl, pn_5⟩
set_option maxRecDepth 100000 in
theorem okY_150 : okY 150 := ⟨tg 816 rfl rfl, tg 49 rfl rfl, rfl, pn_5⟩
set_option maxRecDepth 100000 in
theorem okY_151 : okY 151 := ⟨tg 816 rfl rfl, tg 49 rfl rfl, rfl, pn_5⟩
set_option maxRecDepth 100000 in
theorem okY_152 : okY 152 := ⟨tg 816 rfl rfl, tg 49 rfl rfl, rfl, pn_5⟩
set_option maxRecDepth 100000 in
theorem okY_153 : okY 153 := ⟨tg 816 rfl rfl, tg 49 rfl rfl, rfl, pn_5⟩
set_option maxRecDepth 100000 in
theorem okY_154 : okY 154 := ⟨tg 1318 rfl rfl, tg 29 rfl rfl, rfl, pn_0⟩
set_option maxRecDepth 100000 in
theorem okY_155 : okY 155 := ⟨tg 1314 rfl rfl, tg 28 rfl rfl, rfl, pn_8⟩
set_option maxRecDepth 100000 in
theorem okY_156 : okY 156 := ⟨tg 816 rfl rfl, tg 49 rfl rfl, rfl, pn_5⟩
set_option maxRecDepth 100000 in
theorem okY_157 : okY 157 := ⟨tg 1142 rfl rfl, tg 31 rfl rfl, rfl, pn_3⟩
set_option maxRecDepth 100000 in
theorem okY_158 : okY 158 := ⟨tg 1138 rfl rfl, tg 28 rfl rfl, rfl, pn_8⟩
set_option maxRecDepth 100000 in
theorem okY_159 : okY 159 := ⟨tg 816 rfl rfl, tg 49 rfl rfl, rfl, pn_5⟩
set_option maxRecDepth 100000 in
theorem okY_160 : okY 160 := ⟨tg 1177 rfl rfl, tg 28 rfl rfl, rfl, pn_8⟩
set_option maxRecDepth 100000 in
theorem okY_161 : okY 161 := ⟨tg 816 rfl rfl, tg 49 rfl rfl, rfl, pn_5⟩
set_option maxRecDepth 100000 in
theorem okY_162 : okY 162 := ⟨tg 1185 rfl rfl, tg 28 rfl rfl, rfl, pn_8⟩
set_option maxRecDepth 100000 in
theorem okY_163 : okY 163 := ⟨tg 816 rfl rfl, tg 49 rfl rfl, rfl, pn_5⟩
set_option maxRecDepth 100000 in
theorem okY_164 : okY 164 := ⟨tg 925 rfl rfl, tg 33 rfl rfl, rfl, pn_1⟩
set_option maxRecDepth 100000 in
theorem okY_165 : okY 165 := ⟨tg 941 rfl rfl, tg 28 rfl rfl, rfl, pn_8⟩
set_option maxRecDepth 100000 in
theorem okY_166 : okY 166 := ⟨tg 816 rfl rfl, tg 49 rfl rfl, rfl, pn_5⟩
set_option maxRecDepth 100000 in
theorem okY_167 : okY 167 := ⟨tg 959 rfl rfl, tg 30 rfl rfl, rfl, pn_2⟩
set_option maxRecDepth 100000 in
theorem okY_168 : okY 168 := ⟨tg 950 rfl rfl, tg 28 rfl rfl, rfl, pn_8⟩
set_option maxRecDepth 100000 in
theorem okY_169 : okY 169 := ⟨tg 816 rfl rfl, tg 49 rfl rfl, rfl, pn_5⟩
set_option maxRecDepth 100000 in
theorem okY_170 : okY 170 := ⟨tg 963 rfl rfl, tg 28 rfl rfl, rfl, pn_8⟩
set_option maxRecDepth 100000 in
theorem okY_171 : okY 171 := ⟨tg 816 rfl rfl, tg 49 rfl rfl, rfl, pn_5⟩
set_option maxRecDepth 100000 in
theorem okY_172 : okY 172 := ⟨tg 968 rfl rfl, tg 28 rfl rfl, rfl, pn_8⟩
set_option maxRecDepth 100000 in
theorem okY_173 : okY 173 := ⟨tg 816 rfl rfl, tg 49 rfl rfl, rfl, pn_5⟩
set_option maxRecDepth 100000 in
theorem okY_174 : okY 174 := ⟨tg 972 rfl rfl, tg 28 rfl rfl, rfl, pn_8⟩
set_option maxRecDepth 100000 in
theorem okY_175 : okY 175 := ⟨tg 816 rfl rfl, tg 49 rfl rfl, rfl, pn_5⟩
set_option maxRecDepth 100000 in
theorem okY_176 : okY 176 := ⟨tg 888 rfl rfl, tg 28 rfl rfl, rfl, pn_8⟩
set_option maxRecDepth 100000 in
theorem okY_177 : okY 177 := ⟨tg 816 rfl rfl, tg 49 rfl rfl, rfl, pn_5⟩
set_option maxRecDepth 100000 in
theorem okY_178 : okY 178 := ⟨tg 1118 rfl rfl, tg 28 rfl rfl, rfl, pn_8⟩
set_option maxRecDepth 100000 in
theorem okY_179 : okY 179 := ⟨tg 816 rfl rfl, tg 49 rfl rfl, rfl, pn_5⟩
set_option maxRecDepth 100000 in
theorem okY_180 : okY 180 := ⟨tg 1032 rfl rfl, tg 36 rfl rfl, rfl, pn_6⟩
set_option maxRecDepth 100000 in
theorem okY_181 : okY 181 := ⟨tg 976 rfl rfl, tg 28 rfl rfl, rfl, pn_8⟩
set_option maxRecDepth 100000 in
theorem okY_182 : okY 182 := ⟨tg 816 rfl rfl, tg 49 rfl rfl, rfl, pn_5⟩
set_option maxRecDepth 100000 in
theorem okY_183 : okY 183 := ⟨tg 1073 rfl rfl, tg 30 rfl rfl, rfl, pn_2⟩
set_option maxRecDepth 100000 in
theorem okY_184 : okY 184 := ⟨tg 1077 rfl rfl, tg 30 rfl rfl, rfl, pn_2⟩
set_option maxRecDepth 100000 in
theorem okY_185 : okY 185 := ⟨tg 1069 rfl rfl, tg 28 rfl rfl, rfl, pn_8⟩
set_option maxRecDepth 100000 in
theorem okY_186 : okY 186 := ⟨tg 816 rfl rfl, tg 49 rfl rfl, rfl, pn_5⟩
set_option maxRecDepth 100000 in
theorem okY_187 : okY 187 := ⟨tg 1046 rfl rfl, tg 30 rfl rfl, rfl, pn_2⟩
set_option maxRecDepth 100000 in
theorem okY_188 : okY 188 := ⟨tg 1037 rfl rfl, tg 28 rfl rfl, rfl, pn_8⟩
set_option maxRecDepth 100000 in
theorem okY_189 : okY 189 := ⟨tg 816 rfl rfl, tg 49 rfl rfl, rfl, pn_5⟩
set_option maxRecDepth 100000 in
theorem okY_190 : okY 190 := ⟨tg 1060 rfl rfl, tg 49 rfl rfl, rfl, pn_5⟩
set_option maxRecDepth 100000 in
theorem okY_191 : okY 191 := ⟨tg 1057 rfl rfl, tg 29 rfl rfl, rfl, pn_0⟩
set_option maxRecDepth 100000 in
theorem okY_192 : okY 192 := ⟨tg 1065 rfl rfl, tg 30 rfl rfl, rfl, pn_2⟩
set_option maxRecDepth 100000 in
theorem okY_193 : okY 193 := ⟨tg 1053 rfl rfl, tg 28 rfl rfl, rfl, pn_8⟩
set_option maxRecDepth 100000 in
theorem okY_194 : okY 194 := ⟨tg 816 rfl rfl, tg 49 rfl rfl, rfl, pn_5⟩
set_option maxRecDepth 100000 in
theorem okY_195 : okY 195 := ⟨tg 1085 rfl rfl, tg 28 rfl rfl, rfl, pn_8⟩
set_option maxRecDepth 100000 in
theorem okY_196 : okY 196 := ⟨tg 816 rfl rfl, tg 49 rfl rfl, rfl, pn_5⟩
set_option maxRecDepth 100000 in
theorem okY_197 : okY 197 := ⟨tg 1089 rfl rfl, tg 28 rfl rfl, rfl, pn_8⟩
set_option maxRecDepth 100000 in
theorem okY_198 : okY 198 := ⟨tg 816 rfl rfl, tg 49 rfl rfl, rfl, pn_5⟩
set_option maxRecDepth 100000 in
theorem okY_199 : okY 199 := ⟨tg 1093 rfl rfl, tg 28 rfl rfl, rfl, pn_8⟩
set_option maxRecDepth 100000 in
theorem okY_200 : okY 200 := ⟨tg 816 rfl rfl, tg 49 rfl rfl, rfl, pn_5⟩
set_option maxRecDepth 100000 in
theorem okY_201 : okY 201 := ⟨tg 1097 rfl rfl, tg 28 rfl rfl, rfl, pn_8⟩
set_option maxRecDepth 100000 in
theorem okY_202 : okY 202 := ⟨tg 816 rfl rfl, tg 49 rfl rfl, rfl, pn_5⟩
set_option maxRecDepth 100000 in
theorem okY_203 : okY 203 := ⟨tg 816 rfl rfl, tg 49 rfl rfl, rfl, pn_5⟩
set_option maxRecDepth 100000 in
theorem okY_204 : okY 204 := ⟨tg 816 rfl rfl, tg 49 rfl rfl, rfl, pn_5⟩
set_option maxRecDepth 100000 in
theorem okY_205 : okY 205 := ⟨tg 816 rfl rfl, tg 49 rfl rfl, rfl, pn_5⟩
set_option maxRecDepth 100000 in
theorem okY_206 : okY 206 := ⟨tg 816 rfl rfl, tg 49 rfl rfl, rfl, pn_5⟩
set_option maxRecDepth 100000 in
theorem okY_207 : okY 207 := ⟨tg 816 rfl rfl, tg 49 rfl rfl, rfl, pn_5⟩
set_option maxRecDepth 100000 in
theorem okY_208 : okY 208 := ⟨tg 816 rfl rfl, tg 49 rfl rfl, rfl, pn_5⟩
set_option maxRecDepth 100000 in
theorem okY_209 : okY 209 := ⟨tg 816 rfl rfl, tg 49 rfl rfl, rfl, pn_5⟩
set_option maxRecDepth 100000 in
theorem okY_210 : okY 210 := ⟨tg 816 rfl rfl, tg 49 rfl rfl, rfl, pn_5⟩
set_option maxRecDepth 100000 in
theorem okY_211 : okY 211 := ⟨tg 1202 rfl rfl, tg 28 rfl rfl, rfl, pn_8⟩
set_option maxRecDepth 100000 in
theorem okY_212 : okY 212 := ⟨tg 816 rfl rfl, tg 49 rfl rfl, rfl, pn_5⟩
set_option maxRecDepth 100000 in
theorem okY_213 : okY 213 := ⟨tg 1206 rfl rfl, tg 28 rfl rfl, rfl, pn_8⟩
set_option maxRecDepth 100000 in
theorem okY_214 : okY 214 := ⟨tg 816 rfl rfl, tg 49 rfl rfl, rfl, pn_5⟩
set_option maxRecDepth 100000 in
theorem okY_215 : okY 215 := ⟨tg 533 rfl rfl, tg 27 rfl rfl, rfl, pn_13⟩
set_option maxRecDepth 100000 in
theorem okY_216 : okY 216 := ⟨tg 326 rfl rfl, tg 27 rfl rfl, rfl, pn_13⟩
set_option maxRecDepth 100000 in
theorem okY_217 : okY 217 := ⟨tg 937 rfl rfl, tg 27 rfl rfl, rfl, pn_13⟩
set_option maxRecDepth 100000 in
theorem okY_218 : okY 218 := ⟨tg 781 rfl rfl, tg 27 rfl rfl, rfl, pn_13⟩
set_option maxRecDepth 100000 in
theorem okY_219 : okY 219 := ⟨tg 1246 rfl rfl, tg 27 rfl rfl, rfl, pn_13⟩
set_option maxRecDepth 100000 in
theorem okY_220 : okY 220 := ⟨tg 1243 rfl rfl, tg 27 rfl rfl, rfl, pn_13⟩
set_option maxRecDepth 100000 in
theorem okY_221 : okY 221 := ⟨tg 1212 rfl rfl, tg 27 rfl rfl, rfl, pn_13⟩
set_option maxRecDepth 100000 in
theorem okY_222 : okY 222 := ⟨tg 1249 rfl rfl, tg 27 rfl rfl, rfl, pn_13⟩
set_option maxRecDepth 100000 in
theorem okY_223 : okY 223 := ⟨tg 1324 rfl rfl, tg 27 rfl rfl, rfl, pn_13⟩
set_option maxRecDepth 100000 in
theorem okY_224 : okY 224 := ⟨tg 1209 rfl rfl, tg 27 rfl rfl, rfl, pn_13⟩
set_option maxRecDepth 100000 in
theorem okY_225 : okY 225 := ⟨tg 1134 rfl rfl, tg 27 rfl rfl, rfl, pn_13⟩
set_option maxRecDepth 100000 in
theorem okY_226 : okY 226 := ⟨tg 1131 rfl rfl, tg 27 rfl rfl, rfl, pn_13⟩
set_option maxRecDepth 100000 in
theorem okY_to_50 : ∀ M, M < 50 → okY M := lt_s (lt_s (lt_s (lt_s (lt_s (lt_s (lt_s (lt_s (lt_s (lt_s (lt_s (lt_s (lt_s (lt_s (lt_s (lt_s (lt_s (lt_s (lt_s (lt_s (lt_s (lt_s (lt_s (lt_s (lt_s (lt_s (lt_s (lt_s (lt_s (lt_s (lt_s (lt_s (lt_s (lt_s (lt_s (lt_s (lt_s (lt_s (lt_s (lt_s (lt_s (lt_s (lt_s (lt_s (lt_s (lt_s (lt_s (lt_s (lt_s (lt_s (lt_0) okY_0) okY_1) okY_2) okY_3) okY_4) okY_5) okY_6) okY_7) okY_8) okY_9) okY_10) okY_11) okY_12) okY_13) okY_14) okY_15) okY_16) okY_17) okY_18) okY_19) okY_20) okY_21) okY_22) okY_23) okY_24) okY_25) okY_26) okY_27) okY_28) okY_29) okY_30) okY_31) okY_32) okY_33) okY_34) okY_35) okY_36) okY_37) okY_38) okY_39) okY_40) okY_41) okY_42) okY_43) okY_44) okY_45) okY_46) okY_47) okY_48) okY_49
set_option maxRecDepth 100000 in
theorem okY_to_100 : ∀ M, M < 100 → okY M := lt_s (lt_s (lt_s (lt_s (lt_s (lt_s (lt_s (lt_s (lt_s (lt_s (lt_s (lt_s (lt_s (lt_s (lt_s (lt_s (lt_s (lt_s (lt_s (lt_s (lt_s (lt_s (lt_s (lt_s (lt_s (lt_s (lt_s (lt_s (lt_s (lt_s (lt_s (lt_s (lt_s (lt_s (lt_s (lt_s (lt_s (lt_s (lt_s (lt_s (lt_s (lt_s (lt_s (lt_s (lt_s (lt_s (lt_s (lt_s (lt_s (lt_s (okY_to_50) okY_50) okY_51) okY_52) okY_53) okY_54) okY_55) okY_56) okY_57) okY_58) okY_59) okY_60) okY_61) okY_62) okY_63) okY_64) okY_65) okY_66) okY_67) okY_68) okY_69) okY_70) okY_71) okY_72) okY_73) okY_74) okY_75) okY_76) okY_77) okY_78) okY_79) okY_80) okY_81) okY_82) okY_83) okY_84) okY_85) okY_86) okY_87) okY_88) okY_89) okY_90) okY_91) okY_92) okY_93) okY_94) okY_95) okY_96) okY_97) okY_98) okY_99
set_option maxRecDepth 100000 in
theorem okY_to_150 : ∀ M, M < 150 → okY M := lt_s (lt_s (lt_s (lt_s (lt_s (lt_s (lt_s (lt_s (lt_s (lt_s (lt_s (lt_s (lt_s (lt_s (lt_s (lt_s (lt_s (lt_s (lt_s (lt_s (lt_s (lt_s (lt_s (lt_s (lt_s (lt_s (lt_s (lt_s (lt_s (lt_s (lt_s (lt_s (lt_s (lt_s (lt_s (lt_s (lt_s (lt_s (lt_s (lt_s (lt_s (lt_s (lt_s (lt_s (lt_s (lt_s (lt_s (lt_s (lt_s (lt_s (okY_to_100) okY_100) okY_101) okY_102) okY_103) okY_104) okY_105) okY_106) okY_107) okY_108) okY_109) okY_110) okY_111) okY_112) okY_113) okY_114) okY_115) okY_116) okY_117) okY_118) okY_119) okY_120) okY_121) okY_122) okY_123) okY_124) okY_125) okY_126) okY_127) okY_128) okY_129) okY_130) okY_131) okY_132) okY_133) okY_134) okY_135) okY_136) okY_137) okY_138) okY_139) okY_140) okY_141) okY_142) okY_143) okY_144) okY_145) okY_146) okY_147) okY_148) okY_149
set_option maxRecDepth 100000 in
theorem okY_to_200 : ∀ M, M < 200 → okY M := lt_s (lt_s (lt_s (lt_s (lt_s (lt_s (lt_s (lt_s (lt_s (lt_s (lt_s (lt_s (lt_s (lt_s (lt_s (lt_s (lt_s (lt_s (lt_s (lt_s (lt_s (lt_s (lt_s (lt_s (lt_s (lt_s (lt_s (lt_s (lt_s (lt_s (lt_s (lt_s (lt_s (lt_s (lt_s (lt_s (lt_s (lt_s (lt_s (lt_s (lt_s (lt_s (lt_s (lt_s (lt_s (lt_s (lt_s (lt_s (lt_s (lt_s (okY_to_150) okY_150) okY_151) okY_152) okY_153) okY_154) okY_155) okY_156) okY_157) okY_158) okY_159) okY_160) okY_161) okY_162) okY_163) okY_164) okY_165) okY_166) okY_167) okY_168) okY_169) okY_170) okY_171) okY_172) okY_173) okY_174) okY_175) okY_176) okY_177) okY_178) okY_179) okY_180) okY_181) okY_182) okY_183) okY_184) okY_185) okY_186) okY_187) okY_188) okY_189) okY_190) okY_191) okY_192) okY_193) okY_194) okY_195) okY_196) okY_197) okY_198) okY_199
set_option maxRecDepth 100000 in
theorem okY_to_227 : ∀ M, M < 227 → okY M := lt_s (lt_s (lt_s (lt_s (lt_s (lt_s (lt_s (lt_s (lt_s (lt_s (lt_s (lt_s (lt_s (lt_s (lt_s (lt_s (lt_s (lt_s (lt_s (lt_s (lt_s (lt_s (lt_s (lt_s (lt_s (lt_s (lt_s (okY_to_200) okY_200) okY_201) okY_202) okY_203) okY_204) okY_205) okY_206) okY_207) okY_208) okY_209) okY_210) okY_211) okY_212) okY_213) okY_214) okY_215) okY_216) okY_217) okY_218) okY_219) okY_220) okY_221) okY_222) okY_223) okY_224) okY_225) okY_226
