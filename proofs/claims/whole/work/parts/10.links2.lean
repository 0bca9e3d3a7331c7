/-! calls and methods: their words -/
abbrev okn (M n : Nat) : Prop := (parseMethodDescriptor (mY M).desc).map (fun d => d.parameters.length) = some n
def okM (c : Nat) (e : Nat × Nat × Nat × Nat) : Prop := match e.2.2.2 with
  | 0 => (Cond.methodLink (cN c) e.1 (mY e.2.1) ∈ TG ∧ Cond.instanceMethod (mY e.2.1) ∈ TG ∧ Cond.selects (mY e.2.1).cls (mY e.2.1) (mY e.2.1) ∈ TG ∧ (∃ (T : u_T) (N : Nat), vwCl[mI e.2.1]? = some ((mY e.2.1).cls, T, N))) ∧ mH e.2.1 = [] ∧ okn e.2.1 e.2.2.1 ∧ e.2.1 < 355
  | 1 => (Cond.methodLink (cN c) e.1 (mY e.2.1) ∈ TG ∧ Cond.static (mY e.2.1) ∈ TG) ∧ mH e.2.1 = [] ∧ okn e.2.1 e.2.2.1 ∧ e.2.1 < 355
  | 2 => (Cond.methodLink (cN c) e.1 (mY e.2.1) ∈ TG ∧ Cond.instanceMethod (mY e.2.1) ∈ TG ∧ (mY e.2.1).name = "<init>" ∧ mR e.2.1 = none) ∧ mH e.2.1 = [] ∧ okn e.2.1 e.2.2.1 ∧ e.2.1 < 355
  | 3 => (Cond.methodLinkNest (cN c) e.1 (mY e.2.1) "PinBarrel" ∈ lw_tbl ∧ Cond.instanceMethod (mY e.2.1) ∈ TG ∧ (mY e.2.1).name = "<init>" ∧ mR e.2.1 = none) ∧ mH e.2.1 = [] ∧ okn e.2.1 e.2.2.1 ∧ e.2.1 < 355
  | 4 => (Cond.methodLink (cN c) e.1 (mY e.2.1) ∈ TG ∧ Cond.static (mY e.2.1) ∈ TG) ∧ (mH e.2.1).isEmpty = false ∧ okn e.2.1 e.2.2.1 ∧ e.2.1 < 355
  | 5 => Cond.methodLink (cN c) e.1 objectInit ∈ TG
  | 6 => Cond.methodLink (cN c) e.1 Lib.Math.max.name ∈ TG
  | 7 => Cond.methodLink (cN c) e.1 Lib.Math.min.name ∈ TG
  | 8 => Cond.methodLink (cN c) e.1 arraycopyName ∈ TG
  | 9 => Cond.methodLink (cN c) e.1 ⟨"java/lang/String", "length", "()I"⟩ ∈ TG
  | 10 => Cond.methodLink (cN c) e.1 ⟨"java/lang/String", "charAt", "(I)C"⟩ ∈ TG
  | _ => False
set_option maxRecDepth 100000 in
theorem okM_0 : ∀ e ∈ kM 0, okM 0 e :=
  allm (tg 135 rfl rfl : okM 0 (3, 0, 0, 5)) <|
  allm (⟨⟨List.mem_of_getElem? (i := 138) rfl, tg 139 rfl rfl, rfl, rfl⟩, rfl, by decide +kernel, Nat.le_of_ble_eq_true rfl⟩ : okM 0 (40, 0, 0, 3)) <|
  allm (⟨⟨tg 172 rfl rfl, tg 173 rfl rfl, rfl, rfl⟩, rfl, by decide +kernel, Nat.le_of_ble_eq_true rfl⟩ : okM 0 (47, 2, 0, 2)) <|
  allm (tg 574 rfl rfl : okM 0 (52, 0, 5, 8)) <|
  allm (⟨⟨tg 577 rfl rfl, tg 578 rfl rfl, tg 579 rfl rfl, ⟨_, _, rfl⟩⟩, rfl, by decide +kernel, Nat.le_of_ble_eq_true rfl⟩ : okM 0 (58, 35, 1, 0)) <|
  allm (⟨⟨tg 582 rfl rfl, tg 583 rfl rfl, tg 584 rfl rfl, ⟨_, _, rfl⟩⟩, rfl, by decide +kernel, Nat.le_of_ble_eq_true rfl⟩ : okM 0 (62, 36, 1, 0)) <|
  allm (⟨⟨tg 490 rfl rfl, tg 491 rfl rfl⟩, rfl, by decide +kernel, Nat.le_of_ble_eq_true rfl⟩ : okM 0 (65, 16, 2, 1)) <|
  allm (⟨⟨tg 493 rfl rfl, tg 494 rfl rfl, tg 495 rfl rfl, ⟨_, _, rfl⟩⟩, rfl, by decide +kernel, Nat.le_of_ble_eq_true rfl⟩ : okM 0 (74, 18, 0, 0)) <|
  allm (⟨⟨tg 538 rfl rfl, tg 498 rfl rfl, tg 499 rfl rfl, ⟨_, _, rfl⟩⟩, rfl, by decide +kernel, Nat.le_of_ble_eq_true rfl⟩ : okM 0 (77, 17, 1, 0)) <|
  allm (⟨⟨tg 557 rfl rfl, tg 558 rfl rfl, tg 559 rfl rfl, ⟨_, _, rfl⟩⟩, rfl, by decide +kernel, Nat.le_of_ble_eq_true rfl⟩ : okM 0 (81, 28, 2, 0)) <|
  allm (⟨⟨tg 561 rfl rfl, tg 562 rfl rfl, tg 563 rfl rfl, ⟨_, _, rfl⟩⟩, rfl, by decide +kernel, Nat.le_of_ble_eq_true rfl⟩ : okM 0 (85, 29, 1, 0)) <|
  allm (⟨⟨tg 612 rfl rfl, tg 613 rfl rfl⟩, rfl, by decide +kernel, Nat.le_of_ble_eq_true rfl⟩ : okM 0 (89, 42, 2, 1)) <|
  allm (⟨⟨tg 566 rfl rfl, tg 567 rfl rfl, tg 568 rfl rfl, ⟨_, _, rfl⟩⟩, rfl, by decide +kernel, Nat.le_of_ble_eq_true rfl⟩ : okM 0 (97, 30, 2, 0)) <|
  allm (⟨⟨tg 676 rfl rfl, tg 677 rfl rfl, tg 678 rfl rfl, ⟨_, _, rfl⟩⟩, rfl, by decide +kernel, Nat.le_of_ble_eq_true rfl⟩ : okM 0 (101, 58, 1, 0)) <|
  allm (⟨⟨tg 680 rfl rfl, tg 681 rfl rfl⟩, rfl, by decide +kernel, Nat.le_of_ble_eq_true rfl⟩ : okM 0 (105, 57, 1, 1)) <|
  allm (⟨⟨tg 608 rfl rfl, tg 609 rfl rfl, tg 610 rfl rfl, ⟨_, _, rfl⟩⟩, rfl, by decide +kernel, Nat.le_of_ble_eq_true rfl⟩ : okM 0 (111, 43, 3, 0)) <|
  allm (⟨⟨tg 1100 rfl rfl, tg 698 rfl rfl⟩, rfl, by decide +kernel, Nat.le_of_ble_eq_true rfl⟩ : okM 0 (115, 61, 3, 1)) <|
  allm (⟨⟨tg 1279 rfl rfl, tg 1280 rfl rfl⟩, rfl, by decide +kernel, Nat.le_of_ble_eq_true rfl⟩ : okM 0 (119, 190, 2, 1)) <|
  allm (⟨⟨tg 897 rfl rfl, tg 898 rfl rfl⟩, rfl, by decide +kernel, Nat.le_of_ble_eq_true rfl⟩ : okM 0 (123, 90, 3, 1)) <|
  allm (⟨⟨tg 630 rfl rfl, tg 631 rfl rfl⟩, rfl, by decide +kernel, Nat.le_of_ble_eq_true rfl⟩ : okM 0 (127, 47, 2, 1)) <|
  allm (⟨⟨tg 615 rfl rfl, tg 616 rfl rfl, tg 617 rfl rfl, ⟨_, _, rfl⟩⟩, rfl, by decide +kernel, Nat.le_of_ble_eq_true rfl⟩ : okM 0 (130, 44, 1, 0)) <|
  allm (tg 901 rfl rfl : okM 0 (133, 0, 2, 6)) <|
  allm (⟨⟨tg 893 rfl rfl, tg 894 rfl rfl, tg 895 rfl rfl, ⟨_, _, rfl⟩⟩, rfl, by decide +kernel, Nat.le_of_ble_eq_true rfl⟩ : okM 0 (138, 91, 3, 0)) <|
  allm (⟨⟨tg 694 rfl rfl, tg 695 rfl rfl⟩, rfl, by decide +kernel, Nat.le_of_ble_eq_true rfl⟩ : okM 0 (142, 62, 4, 1)) <|
  allm (⟨⟨tg 690 rfl rfl, tg 691 rfl rfl, tg 692 rfl rfl, ⟨_, _, rfl⟩⟩, rfl, by decide +kernel, Nat.le_of_ble_eq_true rfl⟩ : okM 0 (146, 63, 1, 0)) <|
  allm (⟨⟨tg 929 rfl rfl, tg 931 rfl rfl, tg 18 rfl rfl, ⟨_, _, rfl⟩⟩, rfl, by decide +kernel, Nat.le_of_ble_eq_true rfl⟩ : okM 0 (149, 100, 2, 0)) <|
  allm (⟨⟨tg 933 rfl rfl, tg 934 rfl rfl⟩, rfl, by decide +kernel, Nat.le_of_ble_eq_true rfl⟩ : okM 0 (152, 99, 3, 1)) <|
  allm (⟨⟨tg 936 rfl rfl, tg 855 rfl rfl⟩, rfl, by decide +kernel, Nat.le_of_ble_eq_true rfl⟩ : okM 0 (156, 81, 3, 1)) <|
  allm (⟨⟨tg 821 rfl rfl, tg 822 rfl rfl, tg 823 rfl rfl, ⟨_, _, rfl⟩⟩, rfl, by decide +kernel, Nat.le_of_ble_eq_true rfl⟩ : okM 0 (159, 72, 1, 0)) <|
  allm (⟨⟨tg 960 rfl rfl, tg 818 rfl rfl, tg 819 rfl rfl, ⟨_, _, rfl⟩⟩, rfl, by decide +kernel, Nat.le_of_ble_eq_true rfl⟩ : okM 0 (169, 73, 1, 0)) <|
  allm (⟨⟨tg 619 rfl rfl, tg 620 rfl rfl, tg 621 rfl rfl, ⟨_, _, rfl⟩⟩, rfl, by decide +kernel, Nat.le_of_ble_eq_true rfl⟩ : okM 0 (176, 46, 3, 0)) <|
  alln
set_option maxRecDepth 100000 in
theorem okM_1 : ∀ e ∈ kM 1, okM 1 e :=
  allm (tg 274 rfl rfl : okM 1 (3, 0, 0, 5)) <|
  allm (⟨⟨List.mem_of_getElem? (i := 277) rfl, tg 133 rfl rfl, rfl, rfl⟩, rfl, by decide +kernel, Nat.le_of_ble_eq_true rfl⟩ : okM 1 (24, 3, 0, 3)) <|
  allm (⟨⟨tg 663 rfl rfl, tg 571 rfl rfl, tg 572 rfl rfl, ⟨_, _, rfl⟩⟩, rfl, by decide +kernel, Nat.le_of_ble_eq_true rfl⟩ : okM 1 (25, 37, 1, 0)) <|
  alln
set_option maxRecDepth 100000 in
theorem okM_2 : ∀ e ∈ kM 2, okM 2 e :=
  allm (tg 141 rfl rfl : okM 2 (3, 0, 0, 5)) <|
  allm (tg 581 rfl rfl : okM 2 (25, 0, 5, 8)) <|
  allm (⟨⟨tg 1267 rfl rfl, tg 631 rfl rfl⟩, rfl, by decide +kernel, Nat.le_of_ble_eq_true rfl⟩ : okM 2 (31, 47, 2, 1)) <|
  alln
set_option maxRecDepth 100000 in
theorem okM_3 : ∀ e ∈ kM 3, okM 3 e :=
  allm (tg 175 rfl rfl : okM 3 (3, 0, 0, 5)) <|
  allm (⟨⟨tg 176 rfl rfl, tg 177 rfl rfl⟩, rfl, by decide +kernel, Nat.le_of_ble_eq_true rfl⟩ : okM 3 (40, 1, 2, 1)) <|
  allm (tg 586 rfl rfl : okM 3 (46, 0, 5, 8)) <|
  allm (⟨⟨tg 497 rfl rfl, tg 498 rfl rfl, tg 499 rfl rfl, ⟨_, _, rfl⟩⟩, rfl, by decide +kernel, Nat.le_of_ble_eq_true rfl⟩ : okM 3 (52, 17, 1, 0)) <|
  allm (tg 627 rfl rfl : okM 3 (56, 0, 2, 6)) <|
  allm (⟨⟨tg 623 rfl rfl, tg 624 rfl rfl, tg 625 rfl rfl, ⟨_, _, rfl⟩⟩, rfl, by decide +kernel, Nat.le_of_ble_eq_true rfl⟩ : okM 3 (62, 45, 2, 0)) <|
  alln
set_option maxRecDepth 100000 in
theorem okM_4 : ∀ e ∈ kM 4, okM 4 e :=
  allm (tg 294 rfl rfl : okM 4 (3, 0, 0, 5)) <|
  allm (⟨⟨tg 410 rfl rfl, tg 412 rfl rfl, tg 0 rfl rfl, ⟨_, _, rfl⟩⟩, rfl, by decide +kernel, Nat.le_of_ble_eq_true rfl⟩ : okM 4 (33, 20, 1, 0)) <|
  allm (⟨⟨tg 418 rfl rfl, tg 420 rfl rfl, tg 2 rfl rfl, ⟨_, _, rfl⟩⟩, rfl, by decide +kernel, Nat.le_of_ble_eq_true rfl⟩ : okM 4 (37, 11, 0, 0)) <|
  allm (⟨⟨tg 475 rfl rfl, tg 477 rfl rfl, tg 4 rfl rfl, ⟨_, _, rfl⟩⟩, rfl, by decide +kernel, Nat.le_of_ble_eq_true rfl⟩ : okM 4 (40, 14, 2, 0)) <|
  allm (⟨⟨tg 501 rfl rfl, tg 503 rfl rfl, tg 6 rfl rfl, ⟨_, _, rfl⟩⟩, rfl, by decide +kernel, Nat.le_of_ble_eq_true rfl⟩ : okM 4 (44, 33, 1, 0)) <|
  allm (⟨⟨tg 414 rfl rfl, tg 416 rfl rfl, tg 1 rfl rfl, ⟨_, _, rfl⟩⟩, rfl, by decide +kernel, Nat.le_of_ble_eq_true rfl⟩ : okM 4 (47, 12, 0, 0)) <|
  allm (⟨⟨tg 423 rfl rfl, tg 425 rfl rfl, tg 3 rfl rfl, ⟨_, _, rfl⟩⟩, rfl, by decide +kernel, Nat.le_of_ble_eq_true rfl⟩ : okM 4 (53, 13, 2, 0)) <|
  allm (⟨⟨tg 479 rfl rfl, tg 481 rfl rfl, tg 5 rfl rfl, ⟨_, _, rfl⟩⟩, rfl, by decide +kernel, Nat.le_of_ble_eq_true rfl⟩ : okM 4 (57, 15, 2, 0)) <|
  allm (⟨⟨tg 486 rfl rfl, tg 487 rfl rfl, tg 488 rfl rfl, ⟨_, _, rfl⟩⟩, rfl, by decide +kernel, Nat.le_of_ble_eq_true rfl⟩ : okM 4 (61, 19, 3, 0)) <|
  allm (⟨⟨tg 506 rfl rfl, tg 508 rfl rfl, tg 7 rfl rfl, ⟨_, _, rfl⟩⟩, rfl, by decide +kernel, Nat.le_of_ble_eq_true rfl⟩ : okM 4 (69, 21, 1, 0)) <|
  allm (⟨⟨tg 511 rfl rfl, tg 513 rfl rfl, tg 8 rfl rfl, ⟨_, _, rfl⟩⟩, rfl, by decide +kernel, Nat.le_of_ble_eq_true rfl⟩ : okM 4 (77, 25, 1, 0)) <|
  allm (⟨⟨tg 540 rfl rfl, tg 542 rfl rfl, tg 10 rfl rfl, ⟨_, _, rfl⟩⟩, rfl, by decide +kernel, Nat.le_of_ble_eq_true rfl⟩ : okM 4 (91, 27, 1, 0)) <|
  allm (⟨⟨tg 549 rfl rfl, tg 551 rfl rfl, tg 11 rfl rfl, ⟨_, _, rfl⟩⟩, rfl, by decide +kernel, Nat.le_of_ble_eq_true rfl⟩ : okM 4 (96, 32, 1, 0)) <|
  allm (⟨⟨tg 515 rfl rfl, tg 517 rfl rfl, tg 9 rfl rfl, ⟨_, _, rfl⟩⟩, rfl, by decide +kernel, Nat.le_of_ble_eq_true rfl⟩ : okM 4 (101, 23, 0, 0)) <|
  allm (⟨⟨tg 534 rfl rfl, tg 535 rfl rfl, tg 536 rfl rfl, ⟨_, _, rfl⟩⟩, rfl, by decide +kernel, Nat.le_of_ble_eq_true rfl⟩ : okM 4 (104, 24, 2, 0)) <|
  allm (⟨⟨tg 544 rfl rfl, tg 545 rfl rfl, tg 546 rfl rfl, ⟨_, _, rfl⟩⟩, rfl, by decide +kernel, Nat.le_of_ble_eq_true rfl⟩ : okM 4 (114, 26, 3, 0)) <|
  allm (⟨⟨tg 553 rfl rfl, tg 554 rfl rfl, tg 555 rfl rfl, ⟨_, _, rfl⟩⟩, rfl, by decide +kernel, Nat.le_of_ble_eq_true rfl⟩ : okM 4 (117, 31, 4, 0)) <|
  allm (⟨⟨tg 519 rfl rfl, tg 520 rfl rfl⟩, rfl, by decide +kernel, Nat.le_of_ble_eq_true rfl⟩ : okM 4 (121, 22, 1, 1)) <|
  allm (tg 483 rfl rfl : okM 4 (127, 0, 2, 7)) <|
  allm (tg 427 rfl rfl : okM 4 (132, 0, 0, 9)) <|
  allm (tg 437 rfl rfl : okM 4 (136, 0, 1, 10)) <|
  alln
set_option maxRecDepth 100000 in
theorem okM_5 : ∀ e ∈ kM 5, okM 5 e :=
  allm (⟨⟨tg 700 rfl rfl, tg 701 rfl rfl⟩, rfl, by decide +kernel, Nat.le_of_ble_eq_true rfl⟩ : okM 5 (11, 60, 1, 1)) <|
  allm (⟨⟨tg 857 rfl rfl, tg 613 rfl rfl⟩, rfl, by decide +kernel, Nat.le_of_ble_eq_true rfl⟩ : okM 5 (17, 42, 2, 1)) <|
  allm (⟨⟨tg 697 rfl rfl, tg 698 rfl rfl⟩, rfl, by decide +kernel, Nat.le_of_ble_eq_true rfl⟩ : okM 5 (21, 61, 3, 1)) <|
  allm (⟨⟨tg 900 rfl rfl, tg 631 rfl rfl⟩, rfl, by decide +kernel, Nat.le_of_ble_eq_true rfl⟩ : okM 5 (25, 47, 2, 1)) <|
  allm (⟨⟨tg 704 rfl rfl, tg 681 rfl rfl⟩, rfl, by decide +kernel, Nat.le_of_ble_eq_true rfl⟩ : okM 5 (29, 57, 1, 1)) <|
  alln
set_option maxRecDepth 100000 in
theorem okM_6 : ∀ e ∈ kM 6, okM 6 e :=
  allm (tg 340 rfl rfl : okM 6 (3, 0, 0, 5)) <|
  allm (⟨⟨tg 991 rfl rfl, tg 993 rfl rfl, tg 19 rfl rfl, ⟨_, _, rfl⟩⟩, rfl, by decide +kernel, Nat.le_of_ble_eq_true rfl⟩ : okM 6 (32, 118, 2, 0)) <|
  allm (⟨⟨tg 1008 rfl rfl, tg 1009 rfl rfl⟩, rfl, by decide +kernel, Nat.le_of_ble_eq_true rfl⟩ : okM 6 (47, 119, 4, 1)) <|
  allm (⟨⟨tg 1011 rfl rfl, tg 1013 rfl rfl, tg 22 rfl rfl, ⟨_, _, rfl⟩⟩, rfl, by decide +kernel, Nat.le_of_ble_eq_true rfl⟩ : okM 6 (51, 121, 3, 0)) <|
  allm (⟨⟨tg 1020 rfl rfl, tg 1022 rfl rfl, tg 24 rfl rfl, ⟨_, _, rfl⟩⟩, rfl, by decide +kernel, Nat.le_of_ble_eq_true rfl⟩ : okM 6 (55, 122, 3, 0)) <|
  allm (⟨⟨tg 1026 rfl rfl, tg 1028 rfl rfl, tg 25 rfl rfl, ⟨_, _, rfl⟩⟩, rfl, by decide +kernel, Nat.le_of_ble_eq_true rfl⟩ : okM 6 (59, 123, 3, 0)) <|
  allm (tg 995 rfl rfl : okM 6 (65, 0, 5, 8)) <|
  allm (⟨⟨tg 996 rfl rfl, tg 558 rfl rfl, tg 559 rfl rfl, ⟨_, _, rfl⟩⟩, rfl, by decide +kernel, Nat.le_of_ble_eq_true rfl⟩ : okM 6 (74, 28, 2, 0)) <|
  allm (⟨⟨tg 997 rfl rfl, tg 999 rfl rfl, tg 20 rfl rfl, ⟨_, _, rfl⟩⟩, rfl, by decide +kernel, Nat.le_of_ble_eq_true rfl⟩ : okM 6 (78, 115, 2, 0)) <|
  allm (⟨⟨tg 1001 rfl rfl, tg 1003 rfl rfl, tg 21 rfl rfl, ⟨_, _, rfl⟩⟩, rfl, by decide +kernel, Nat.le_of_ble_eq_true rfl⟩ : okM 6 (86, 117, 2, 0)) <|
  allm (⟨⟨tg 1005 rfl rfl, tg 1006 rfl rfl⟩, rfl, by decide +kernel, Nat.le_of_ble_eq_true rfl⟩ : okM 6 (90, 116, 2, 1)) <|
  allm (⟨⟨tg 1024 rfl rfl, tg 616 rfl rfl, tg 617 rfl rfl, ⟨_, _, rfl⟩⟩, rfl, by decide +kernel, Nat.le_of_ble_eq_true rfl⟩ : okM 6 (98, 44, 1, 0)) <|
  allm (⟨⟨tg 1015 rfl rfl, tg 1017 rfl rfl, tg 23 rfl rfl, ⟨_, _, rfl⟩⟩, rfl, by decide +kernel, Nat.le_of_ble_eq_true rfl⟩ : okM 6 (105, 120, 1, 0)) <|
  allm (⟨⟨tg 1025 rfl rfl, tg 934 rfl rfl⟩, rfl, by decide +kernel, Nat.le_of_ble_eq_true rfl⟩ : okM 6 (109, 99, 3, 1)) <|
  alln
set_option maxRecDepth 100000 in
theorem okM_7 : ∀ e ∈ kM 7, okM 7 e :=
  allm (tg 325 rfl rfl : okM 7 (3, 0, 0, 5)) <|
  allm (⟨⟨tg 1333 rfl rfl, tg 520 rfl rfl⟩, rfl, by decide +kernel, Nat.le_of_ble_eq_true rfl⟩ : okM 7 (19, 22, 1, 1)) <|
  allm (tg 1334 rfl rfl : okM 7 (23, 0, 0, 9)) <|
  allm (tg 1335 rfl rfl : okM 7 (28, 0, 1, 10)) <|
  allm (⟨⟨tg 1336 rfl rfl, tg 1337 rfl rfl, tg 1338 rfl rfl, ⟨_, _, rfl⟩⟩, rfl, by decide +kernel, Nat.le_of_ble_eq_true rfl⟩ : okM 7 (32, 205, 1, 0)) <|
  alln
set_option maxRecDepth 100000 in
theorem okM_8_1 : ∀ e ∈ ([(339, 30, 2, 0), (343, 180, 1, 0), (346, 183, 2, 0), (350, 184, 2, 0), (353, 187, 3, 0), (356, 191, 1, 0), (359, 192, 2, 0), (364, 206, 1, 0), (367, 205, 1, 0), (374, 55, 1, 0)] : List (Nat × Nat × Nat × Nat)), okM 8 e :=
  allm (⟨⟨tg 1229 rfl rfl, tg 567 rfl rfl, tg 568 rfl rfl, ⟨_, _, rfl⟩⟩, rfl, by decide +kernel, Nat.le_of_ble_eq_true rfl⟩ : okM 8 (339, 30, 2, 0)) <|
  allm (⟨⟨tg 1237 rfl rfl, tg 1238 rfl rfl, tg 1239 rfl rfl, ⟨_, _, rfl⟩⟩, rfl, by decide +kernel, Nat.le_of_ble_eq_true rfl⟩ : okM 8 (343, 180, 1, 0)) <|
  allm (⟨⟨tg 1248 rfl rfl, tg 1249 rfl rfl, tg 1250 rfl rfl, ⟨_, _, rfl⟩⟩, rfl, by decide +kernel, Nat.le_of_ble_eq_true rfl⟩ : okM 8 (346, 183, 2, 0)) <|
  allm (⟨⟨tg 1252 rfl rfl, tg 1253 rfl rfl, tg 1254 rfl rfl, ⟨_, _, rfl⟩⟩, rfl, by decide +kernel, Nat.le_of_ble_eq_true rfl⟩ : okM 8 (350, 184, 2, 0)) <|
  allm (⟨⟨tg 1263 rfl rfl, tg 1264 rfl rfl, tg 1265 rfl rfl, ⟨_, _, rfl⟩⟩, rfl, by decide +kernel, Nat.le_of_ble_eq_true rfl⟩ : okM 8 (353, 187, 3, 0)) <|
  allm (⟨⟨tg 1275 rfl rfl, tg 1276 rfl rfl, tg 1277 rfl rfl, ⟨_, _, rfl⟩⟩, rfl, by decide +kernel, Nat.le_of_ble_eq_true rfl⟩ : okM 8 (356, 191, 1, 0)) <|
  allm (⟨⟨tg 1282 rfl rfl, tg 1283 rfl rfl, tg 1284 rfl rfl, ⟨_, _, rfl⟩⟩, rfl, by decide +kernel, Nat.le_of_ble_eq_true rfl⟩ : okM 8 (359, 192, 2, 0)) <|
  allm (⟨⟨tg 1329 rfl rfl, tg 1330 rfl rfl, tg 1331 rfl rfl, ⟨_, _, rfl⟩⟩, rfl, by decide +kernel, Nat.le_of_ble_eq_true rfl⟩ : okM 8 (364, 206, 1, 0)) <|
  allm (⟨⟨tg 1340 rfl rfl, tg 1337 rfl rfl, tg 1338 rfl rfl, ⟨_, _, rfl⟩⟩, rfl, by decide +kernel, Nat.le_of_ble_eq_true rfl⟩ : okM 8 (367, 205, 1, 0)) <|
  allm (⟨⟨tg 659 rfl rfl, tg 660 rfl rfl, tg 661 rfl rfl, ⟨_, _, rfl⟩⟩, rfl, by decide +kernel, Nat.le_of_ble_eq_true rfl⟩ : okM 8 (374, 55, 1, 0)) <|
  alln
set_option maxRecDepth 100000 in
theorem okM_8_0 : ∀ e ∈ ([(3, 0, 0, 5), (11, 3, 0, 3), (21, 4, 0, 2), (36, 5, 0, 3), (43, 6, 0, 3), (50, 7, 0, 3), (62, 9, 1, 0), (69, 34, 1, 0), (80, 37, 1, 0), (84, 38, 0, 0), (111, 59, 0, 0), (136, 64, 0, 0), (147, 67, 1, 0), (158, 44, 1, 0), (162, 68, 1, 0), (174, 45, 2, 0), (178, 71, 1, 0), (186, 73, 1, 0), (189, 77, 1, 0), (192, 78, 1, 0), (195, 43, 3, 0), (199, 28, 2, 0), (202, 29, 1, 0), (206, 81, 3, 1), (212, 84, 2, 0), (215, 87, 1, 1), (220, 92, 1, 0), (223, 76, 3, 0), (227, 95, 2, 0), (230, 96, 3, 0), (234, 91, 3, 0), (237, 101, 1, 0), (240, 102, 1, 0), (243, 103, 1, 0), (246, 106, 1, 0), (249, 107, 1, 0), (252, 58, 1, 0), (255, 112, 1, 0), (259, 124, 3, 0), (269, 129, 0, 0), (273, 130, 1, 0), (276, 133, 0, 0), (279, 140, 2, 0), (282, 24, 2, 0), (286, 143, 2, 0), (289, 146, 1, 0), (292, 0, 2, 7), (297, 151, 4, 0), (301, 0, 2, 6), (304, 154, 1, 0), (307, 42, 2, 1), (311, 90, 3, 1), (314, 157, 2, 0), (317, 48, 1, 0), (320, 52, 0, 0), (323, 47, 2, 1), (326, 164, 1, 0), (329, 26, 3, 0), (332, 167, 1, 0), (335, 31, 4, 0), (339, 30, 2, 0), (343, 180, 1, 0), (346, 183, 2, 0), (350, 184, 2, 0), (353, 187, 3, 0), (356, 191, 1, 0), (359, 192, 2, 0), (364, 206, 1, 0), (367, 205, 1, 0), (374, 55, 1, 0)] : List (Nat × Nat × Nat × Nat)), okM 8 e :=
  allm (tg 127 rfl rfl : okM 8 (3, 0, 0, 5)) <|
  allm (⟨⟨List.mem_of_getElem? (i := 132) rfl, tg 133 rfl rfl, rfl, rfl⟩, rfl, by decide +kernel, Nat.le_of_ble_eq_true rfl⟩ : okM 8 (11, 3, 0, 3)) <|
  allm (⟨⟨tg 271 rfl rfl, tg 272 rfl rfl, rfl, rfl⟩, rfl, by decide +kernel, Nat.le_of_ble_eq_true rfl⟩ : okM 8 (21, 4, 0, 2)) <|
  allm (⟨⟨List.mem_of_getElem? (i := 291) rfl, tg 292 rfl rfl, rfl, rfl⟩, rfl, by decide +kernel, Nat.le_of_ble_eq_true rfl⟩ : okM 8 (36, 5, 0, 3)) <|
  allm (⟨⟨List.mem_of_getElem? (i := 322) rfl, tg 323 rfl rfl, rfl, rfl⟩, rfl, by decide +kernel, Nat.le_of_ble_eq_true rfl⟩ : okM 8 (43, 6, 0, 3)) <|
  allm (⟨⟨List.mem_of_getElem? (i := 337) rfl, tg 338 rfl rfl, rfl, rfl⟩, rfl, by decide +kernel, Nat.le_of_ble_eq_true rfl⟩ : okM 8 (50, 7, 0, 3)) <|
  allm (⟨⟨tg 397 rfl rfl, tg 398 rfl rfl, tg 399 rfl rfl, ⟨_, _, rfl⟩⟩, rfl, by decide +kernel, Nat.le_of_ble_eq_true rfl⟩ : okM 8 (62, 9, 1, 0)) <|
  allm (⟨⟨tg 406 rfl rfl, tg 407 rfl rfl, tg 408 rfl rfl, ⟨_, _, rfl⟩⟩, rfl, by decide +kernel, Nat.le_of_ble_eq_true rfl⟩ : okM 8 (69, 34, 1, 0)) <|
  allm (⟨⟨tg 570 rfl rfl, tg 571 rfl rfl, tg 572 rfl rfl, ⟨_, _, rfl⟩⟩, rfl, by decide +kernel, Nat.le_of_ble_eq_true rfl⟩ : okM 8 (80, 37, 1, 0)) <|
  allm (⟨⟨tg 587 rfl rfl, tg 588 rfl rfl, tg 589 rfl rfl, ⟨_, _, rfl⟩⟩, rfl, by decide +kernel, Nat.le_of_ble_eq_true rfl⟩ : okM 8 (84, 38, 0, 0)) <|
  allm (⟨⟨tg 672 rfl rfl, tg 673 rfl rfl, tg 674 rfl rfl, ⟨_, _, rfl⟩⟩, rfl, by decide +kernel, Nat.le_of_ble_eq_true rfl⟩ : okM 8 (111, 59, 0, 0)) <|
  allm (⟨⟨tg 686 rfl rfl, tg 687 rfl rfl, tg 688 rfl rfl, ⟨_, _, rfl⟩⟩, rfl, by decide +kernel, Nat.le_of_ble_eq_true rfl⟩ : okM 8 (136, 64, 0, 0)) <|
  allm (⟨⟨tg 779 rfl rfl, tg 781 rfl rfl, tg 13 rfl rfl, ⟨_, _, rfl⟩⟩, rfl, by decide +kernel, Nat.le_of_ble_eq_true rfl⟩ : okM 8 (147, 67, 1, 0)) <|
  allm (⟨⟨tg 799 rfl rfl, tg 616 rfl rfl, tg 617 rfl rfl, ⟨_, _, rfl⟩⟩, rfl, by decide +kernel, Nat.le_of_ble_eq_true rfl⟩ : okM 8 (158, 44, 1, 0)) <|
  allm (⟨⟨tg 800 rfl rfl, tg 801 rfl rfl, tg 802 rfl rfl, ⟨_, _, rfl⟩⟩, rfl, by decide +kernel, Nat.le_of_ble_eq_true rfl⟩ : okM 8 (162, 68, 1, 0)) <|
  allm (⟨⟨tg 804 rfl rfl, tg 624 rfl rfl, tg 625 rfl rfl, ⟨_, _, rfl⟩⟩, rfl, by decide +kernel, Nat.le_of_ble_eq_true rfl⟩ : okM 8 (174, 45, 2, 0)) <|
  allm (⟨⟨tg 812 rfl rfl, tg 814 rfl rfl, tg 14 rfl rfl, ⟨_, _, rfl⟩⟩, rfl, by decide +kernel, Nat.le_of_ble_eq_true rfl⟩ : okM 8 (178, 71, 1, 0)) <|
  allm (⟨⟨tg 817 rfl rfl, tg 818 rfl rfl, tg 819 rfl rfl, ⟨_, _, rfl⟩⟩, rfl, by decide +kernel, Nat.le_of_ble_eq_true rfl⟩ : okM 8 (186, 73, 1, 0)) <|
  allm (⟨⟨tg 832 rfl rfl, tg 834 rfl rfl, tg 15 rfl rfl, ⟨_, _, rfl⟩⟩, rfl, by decide +kernel, Nat.le_of_ble_eq_true rfl⟩ : okM 8 (189, 77, 1, 0)) <|
  allm (⟨⟨tg 841 rfl rfl, tg 843 rfl rfl, tg 17 rfl rfl, ⟨_, _, rfl⟩⟩, rfl, by decide +kernel, Nat.le_of_ble_eq_true rfl⟩ : okM 8 (192, 78, 1, 0)) <|
  allm (⟨⟨tg 638 rfl rfl, tg 609 rfl rfl, tg 610 rfl rfl, ⟨_, _, rfl⟩⟩, rfl, by decide +kernel, Nat.le_of_ble_eq_true rfl⟩ : okM 8 (195, 43, 3, 0)) <|
  allm (⟨⟨tg 852 rfl rfl, tg 558 rfl rfl, tg 559 rfl rfl, ⟨_, _, rfl⟩⟩, rfl, by decide +kernel, Nat.le_of_ble_eq_true rfl⟩ : okM 8 (199, 28, 2, 0)) <|
  allm (⟨⟨tg 853 rfl rfl, tg 562 rfl rfl, tg 563 rfl rfl, ⟨_, _, rfl⟩⟩, rfl, by decide +kernel, Nat.le_of_ble_eq_true rfl⟩ : okM 8 (202, 29, 1, 0)) <|
  allm (⟨⟨tg 854 rfl rfl, tg 855 rfl rfl⟩, rfl, by decide +kernel, Nat.le_of_ble_eq_true rfl⟩ : okM 8 (206, 81, 3, 1)) <|
  allm (⟨⟨tg 865 rfl rfl, tg 866 rfl rfl, tg 867 rfl rfl, ⟨_, _, rfl⟩⟩, rfl, by decide +kernel, Nat.le_of_ble_eq_true rfl⟩ : okM 8 (212, 84, 2, 0)) <|
  allm (⟨⟨tg 876 rfl rfl, tg 877 rfl rfl⟩, rfl, by decide +kernel, Nat.le_of_ble_eq_true rfl⟩ : okM 8 (215, 87, 1, 1)) <|
  allm (⟨⟨tg 889 rfl rfl, tg 890 rfl rfl, tg 891 rfl rfl, ⟨_, _, rfl⟩⟩, rfl, by decide +kernel, Nat.le_of_ble_eq_true rfl⟩ : okM 8 (220, 92, 1, 0)) <|
  allm (⟨⟨tg 836 rfl rfl, tg 838 rfl rfl, tg 16 rfl rfl, ⟨_, _, rfl⟩⟩, rfl, by decide +kernel, Nat.le_of_ble_eq_true rfl⟩ : okM 8 (223, 76, 3, 0)) <|
  allm (⟨⟨tg 909 rfl rfl, tg 910 rfl rfl, tg 911 rfl rfl, ⟨_, _, rfl⟩⟩, rfl, by decide +kernel, Nat.le_of_ble_eq_true rfl⟩ : okM 8 (227, 95, 2, 0)) <|
  allm (⟨⟨tg 913 rfl rfl, tg 914 rfl rfl, tg 915 rfl rfl, ⟨_, _, rfl⟩⟩, rfl, by decide +kernel, Nat.le_of_ble_eq_true rfl⟩ : okM 8 (230, 96, 3, 0)) <|
  allm (⟨⟨tg 917 rfl rfl, tg 894 rfl rfl, tg 895 rfl rfl, ⟨_, _, rfl⟩⟩, rfl, by decide +kernel, Nat.le_of_ble_eq_true rfl⟩ : okM 8 (234, 91, 3, 0)) <|
  allm (⟨⟨tg 925 rfl rfl, tg 926 rfl rfl, tg 927 rfl rfl, ⟨_, _, rfl⟩⟩, rfl, by decide +kernel, Nat.le_of_ble_eq_true rfl⟩ : okM 8 (237, 101, 1, 0)) <|
  allm (⟨⟨tg 937 rfl rfl, tg 938 rfl rfl, tg 939 rfl rfl, ⟨_, _, rfl⟩⟩, rfl, by decide +kernel, Nat.le_of_ble_eq_true rfl⟩ : okM 8 (240, 102, 1, 0)) <|
  allm (⟨⟨tg 941 rfl rfl, tg 942 rfl rfl, tg 943 rfl rfl, ⟨_, _, rfl⟩⟩, rfl, by decide +kernel, Nat.le_of_ble_eq_true rfl⟩ : okM 8 (243, 103, 1, 0)) <|
  allm (⟨⟨tg 952 rfl rfl, tg 953 rfl rfl, tg 954 rfl rfl, ⟨_, _, rfl⟩⟩, rfl, by decide +kernel, Nat.le_of_ble_eq_true rfl⟩ : okM 8 (246, 106, 1, 0)) <|
  allm (⟨⟨tg 956 rfl rfl, tg 957 rfl rfl, tg 958 rfl rfl, ⟨_, _, rfl⟩⟩, rfl, by decide +kernel, Nat.le_of_ble_eq_true rfl⟩ : okM 8 (249, 107, 1, 0)) <|
  allm (⟨⟨tg 968 rfl rfl, tg 677 rfl rfl, tg 678 rfl rfl, ⟨_, _, rfl⟩⟩, rfl, by decide +kernel, Nat.le_of_ble_eq_true rfl⟩ : okM 8 (252, 58, 1, 0)) <|
  allm (⟨⟨tg 976 rfl rfl, tg 977 rfl rfl, tg 978 rfl rfl, ⟨_, _, rfl⟩⟩, rfl, by decide +kernel, Nat.le_of_ble_eq_true rfl⟩ : okM 8 (255, 112, 1, 0)) <|
  allm (⟨⟨tg 987 rfl rfl, tg 988 rfl rfl, tg 989 rfl rfl, ⟨_, _, rfl⟩⟩, rfl, by decide +kernel, Nat.le_of_ble_eq_true rfl⟩ : okM 8 (259, 124, 3, 0)) <|
  allm (⟨⟨tg 1044 rfl rfl, tg 1045 rfl rfl, tg 1046 rfl rfl, ⟨_, _, rfl⟩⟩, rfl, by decide +kernel, Nat.le_of_ble_eq_true rfl⟩ : okM 8 (269, 129, 0, 0)) <|
  allm (⟨⟨tg 1048 rfl rfl, tg 1049 rfl rfl, tg 1050 rfl rfl, ⟨_, _, rfl⟩⟩, rfl, by decide +kernel, Nat.le_of_ble_eq_true rfl⟩ : okM 8 (273, 130, 1, 0)) <|
  allm (⟨⟨tg 1059 rfl rfl, tg 1060 rfl rfl, tg 1061 rfl rfl, ⟨_, _, rfl⟩⟩, rfl, by decide +kernel, Nat.le_of_ble_eq_true rfl⟩ : okM 8 (276, 133, 0, 0)) <|
  allm (⟨⟨tg 1084 rfl rfl, tg 1085 rfl rfl, tg 1086 rfl rfl, ⟨_, _, rfl⟩⟩, rfl, by decide +kernel, Nat.le_of_ble_eq_true rfl⟩ : okM 8 (279, 140, 2, 0)) <|
  allm (⟨⟨tg 1088 rfl rfl, tg 535 rfl rfl, tg 536 rfl rfl, ⟨_, _, rfl⟩⟩, rfl, by decide +kernel, Nat.le_of_ble_eq_true rfl⟩ : okM 8 (282, 24, 2, 0)) <|
  allm (⟨⟨tg 1096 rfl rfl, tg 1097 rfl rfl, tg 1098 rfl rfl, ⟨_, _, rfl⟩⟩, rfl, by decide +kernel, Nat.le_of_ble_eq_true rfl⟩ : okM 8 (286, 143, 2, 0)) <|
  allm (⟨⟨tg 1108 rfl rfl, tg 1110 rfl rfl, tg 26 rfl rfl, ⟨_, _, rfl⟩⟩, rfl, by decide +kernel, Nat.le_of_ble_eq_true rfl⟩ : okM 8 (289, 146, 1, 0)) <|
  allm (tg 1126 rfl rfl : okM 8 (292, 0, 2, 7)) <|
  allm (⟨⟨tg 1127 rfl rfl, tg 1128 rfl rfl, tg 1129 rfl rfl, ⟨_, _, rfl⟩⟩, rfl, by decide +kernel, Nat.le_of_ble_eq_true rfl⟩ : okM 8 (297, 151, 4, 0)) <|
  allm (tg 1131 rfl rfl : okM 8 (301, 0, 2, 6)) <|
  allm (⟨⟨tg 1139 rfl rfl, tg 1140 rfl rfl, tg 1141 rfl rfl, ⟨_, _, rfl⟩⟩, rfl, by decide +kernel, Nat.le_of_ble_eq_true rfl⟩ : okM 8 (304, 154, 1, 0)) <|
  allm (⟨⟨tg 1143 rfl rfl, tg 613 rfl rfl⟩, rfl, by decide +kernel, Nat.le_of_ble_eq_true rfl⟩ : okM 8 (307, 42, 2, 1)) <|
  allm (⟨⟨tg 1144 rfl rfl, tg 898 rfl rfl⟩, rfl, by decide +kernel, Nat.le_of_ble_eq_true rfl⟩ : okM 8 (311, 90, 3, 1)) <|
  allm (⟨⟨tg 1152 rfl rfl, tg 1153 rfl rfl, tg 1154 rfl rfl, ⟨_, _, rfl⟩⟩, rfl, by decide +kernel, Nat.le_of_ble_eq_true rfl⟩ : okM 8 (314, 157, 2, 0)) <|
  allm (⟨⟨tg 604 rfl rfl, tg 605 rfl rfl, tg 606 rfl rfl, ⟨_, _, rfl⟩⟩, rfl, by decide +kernel, Nat.le_of_ble_eq_true rfl⟩ : okM 8 (317, 48, 1, 0)) <|
  allm (⟨⟨tg 647 rfl rfl, tg 648 rfl rfl, tg 649 rfl rfl, ⟨_, _, rfl⟩⟩, rfl, by decide +kernel, Nat.le_of_ble_eq_true rfl⟩ : okM 8 (320, 52, 0, 0)) <|
  allm (⟨⟨tg 637 rfl rfl, tg 631 rfl rfl⟩, rfl, by decide +kernel, Nat.le_of_ble_eq_true rfl⟩ : okM 8 (323, 47, 2, 1)) <|
  allm (⟨⟨tg 1177 rfl rfl, tg 1178 rfl rfl, tg 1179 rfl rfl, ⟨_, _, rfl⟩⟩, rfl, by decide +kernel, Nat.le_of_ble_eq_true rfl⟩ : okM 8 (326, 164, 1, 0)) <|
  allm (⟨⟨tg 1181 rfl rfl, tg 545 rfl rfl, tg 546 rfl rfl, ⟨_, _, rfl⟩⟩, rfl, by decide +kernel, Nat.le_of_ble_eq_true rfl⟩ : okM 8 (329, 26, 3, 0)) <|
  allm (⟨⟨tg 1189 rfl rfl, tg 1190 rfl rfl, tg 1191 rfl rfl, ⟨_, _, rfl⟩⟩, rfl, by decide +kernel, Nat.le_of_ble_eq_true rfl⟩ : okM 8 (332, 167, 1, 0)) <|
  allm (⟨⟨tg 1221 rfl rfl, tg 554 rfl rfl, tg 555 rfl rfl, ⟨_, _, rfl⟩⟩, rfl, by decide +kernel, Nat.le_of_ble_eq_true rfl⟩ : okM 8 (335, 31, 4, 0)) <|
  okM_8_1
theorem okM_8 : ∀ e ∈ kM 8, okM 8 e := okM_8_0
set_option maxRecDepth 100000 in
theorem okM_9_1 : ∀ e ∈ ([(356, 260, 2, 0), (360, 263, 1, 0), (363, 264, 1, 0), (366, 266, 1, 0), (371, 272, 1, 0), (374, 273, 2, 0), (377, 275, 1, 0), (380, 281, 1, 0), (385, 288, 1, 0), (388, 291, 1, 0), (391, 299, 1, 0), (393, 307, 2, 0), (396, 309, 1, 1), (399, 310, 2, 0), (404, 313, 4, 0), (408, 319, 0, 0), (413, 317, 1, 1), (416, 320, 1, 0), (419, 326, 0, 0), (424, 329, 1, 1), (427, 331, 2, 0), (430, 335, 1, 0), (441, 347, 1, 0), (444, 348, 1, 0)] : List (Nat × Nat × Nat × Nat)), okM 9 e :=
  allm (⟨⟨tg 1664 rfl rfl, tg 1666 rfl rfl, tg 58 rfl rfl, ⟨_, _, rfl⟩⟩, rfl, by decide +kernel, Nat.le_of_ble_eq_true rfl⟩ : okM 9 (356, 260, 2, 0)) <|
  allm (⟨⟨tg 1676 rfl rfl, tg 1678 rfl rfl, tg 61 rfl rfl, ⟨_, _, rfl⟩⟩, rfl, by decide +kernel, Nat.le_of_ble_eq_true rfl⟩ : okM 9 (360, 263, 1, 0)) <|
  allm (⟨⟨tg 1680 rfl rfl, tg 1682 rfl rfl, tg 62 rfl rfl, ⟨_, _, rfl⟩⟩, rfl, by decide +kernel, Nat.le_of_ble_eq_true rfl⟩ : okM 9 (363, 264, 1, 0)) <|
  allm (⟨⟨tg 1689 rfl rfl, tg 1691 rfl rfl, tg 63 rfl rfl, ⟨_, _, rfl⟩⟩, rfl, by decide +kernel, Nat.le_of_ble_eq_true rfl⟩ : okM 9 (366, 266, 1, 0)) <|
  allm (⟨⟨tg 1718 rfl rfl, tg 1720 rfl rfl, tg 69 rfl rfl, ⟨_, _, rfl⟩⟩, rfl, by decide +kernel, Nat.le_of_ble_eq_true rfl⟩ : okM 9 (371, 272, 1, 0)) <|
  allm (⟨⟨tg 1710 rfl rfl, tg 1712 rfl rfl, tg 67 rfl rfl, ⟨_, _, rfl⟩⟩, rfl, by decide +kernel, Nat.le_of_ble_eq_true rfl⟩ : okM 9 (374, 273, 2, 0)) <|
  allm (⟨⟨tg 1726 rfl rfl, tg 1728 rfl rfl, tg 70 rfl rfl, ⟨_, _, rfl⟩⟩, rfl, by decide +kernel, Nat.le_of_ble_eq_true rfl⟩ : okM 9 (377, 275, 1, 0)) <|
  allm (⟨⟨tg 1742 rfl rfl, tg 1744 rfl rfl, tg 71 rfl rfl, ⟨_, _, rfl⟩⟩, rfl, by decide +kernel, Nat.le_of_ble_eq_true rfl⟩ : okM 9 (380, 281, 1, 0)) <|
  allm (⟨⟨tg 1775 rfl rfl, tg 1777 rfl rfl, tg 75 rfl rfl, ⟨_, _, rfl⟩⟩, rfl, by decide +kernel, Nat.le_of_ble_eq_true rfl⟩ : okM 9 (385, 288, 1, 0)) <|
  allm (⟨⟨tg 1787 rfl rfl, tg 1789 rfl rfl, tg 77 rfl rfl, ⟨_, _, rfl⟩⟩, rfl, by decide +kernel, Nat.le_of_ble_eq_true rfl⟩ : okM 9 (388, 291, 1, 0)) <|
  allm (⟨⟨tg 1799 rfl rfl, tg 1801 rfl rfl, tg 79 rfl rfl, ⟨_, _, rfl⟩⟩, rfl, by decide +kernel, Nat.le_of_ble_eq_true rfl⟩ : okM 9 (391, 299, 1, 0)) <|
  allm (⟨⟨tg 1855 rfl rfl, tg 1857 rfl rfl, tg 86 rfl rfl, ⟨_, _, rfl⟩⟩, rfl, by decide +kernel, Nat.le_of_ble_eq_true rfl⟩ : okM 9 (393, 307, 2, 0)) <|
  allm (⟨⟨tg 1863 rfl rfl, tg 1864 rfl rfl⟩, rfl, by decide +kernel, Nat.le_of_ble_eq_true rfl⟩ : okM 9 (396, 309, 1, 1)) <|
  allm (⟨⟨tg 1867 rfl rfl, tg 1869 rfl rfl, tg 87 rfl rfl, ⟨_, _, rfl⟩⟩, rfl, by decide +kernel, Nat.le_of_ble_eq_true rfl⟩ : okM 9 (399, 310, 2, 0)) <|
  allm (⟨⟨tg 1880 rfl rfl, tg 1882 rfl rfl, tg 88 rfl rfl, ⟨_, _, rfl⟩⟩, rfl, by decide +kernel, Nat.le_of_ble_eq_true rfl⟩ : okM 9 (404, 313, 4, 0)) <|
  allm (⟨⟨tg 1904 rfl rfl, tg 1906 rfl rfl, tg 90 rfl rfl, ⟨_, _, rfl⟩⟩, rfl, by decide +kernel, Nat.le_of_ble_eq_true rfl⟩ : okM 9 (408, 319, 0, 0)) <|
  allm (⟨⟨tg 1896 rfl rfl, tg 1897 rfl rfl⟩, rfl, by decide +kernel, Nat.le_of_ble_eq_true rfl⟩ : okM 9 (413, 317, 1, 1)) <|
  allm (⟨⟨tg 1900 rfl rfl, tg 1902 rfl rfl, tg 89 rfl rfl, ⟨_, _, rfl⟩⟩, rfl, by decide +kernel, Nat.le_of_ble_eq_true rfl⟩ : okM 9 (416, 320, 1, 0)) <|
  allm (⟨⟨tg 1932 rfl rfl, tg 1934 rfl rfl, tg 92 rfl rfl, ⟨_, _, rfl⟩⟩, rfl, by decide +kernel, Nat.le_of_ble_eq_true rfl⟩ : okM 9 (419, 326, 0, 0)) <|
  allm (⟨⟨tg 1944 rfl rfl, tg 1945 rfl rfl⟩, rfl, by decide +kernel, Nat.le_of_ble_eq_true rfl⟩ : okM 9 (424, 329, 1, 1)) <|
  allm (⟨⟨tg 1952 rfl rfl, tg 1954 rfl rfl, tg 93 rfl rfl, ⟨_, _, rfl⟩⟩, rfl, by decide +kernel, Nat.le_of_ble_eq_true rfl⟩ : okM 9 (427, 331, 2, 0)) <|
  allm (⟨⟨tg 1968 rfl rfl, tg 1970 rfl rfl, tg 94 rfl rfl, ⟨_, _, rfl⟩⟩, rfl, by decide +kernel, Nat.le_of_ble_eq_true rfl⟩ : okM 9 (430, 335, 1, 0)) <|
  allm (⟨⟨tg 2023 rfl rfl, tg 2025 rfl rfl, tg 96 rfl rfl, ⟨_, _, rfl⟩⟩, rfl, by decide +kernel, Nat.le_of_ble_eq_true rfl⟩ : okM 9 (441, 347, 1, 0)) <|
  allm (⟨⟨tg 2019 rfl rfl, tg 2021 rfl rfl, tg 95 rfl rfl, ⟨_, _, rfl⟩⟩, rfl, by decide +kernel, Nat.le_of_ble_eq_true rfl⟩ : okM 9 (444, 348, 1, 0)) <|
  alln
set_option maxRecDepth 100000 in
theorem okM_9_0 : ∀ e ∈ ([(3, 0, 0, 5), (46, 215, 3, 0), (73, 220, 0, 0), (81, 221, 3, 1), (85, 224, 2, 0), (89, 222, 3, 0), (104, 0, 0, 9), (108, 0, 1, 10), (136, 228, 1, 1), (140, 223, 1, 0), (144, 225, 2, 0), (150, 229, 0, 0), (153, 231, 2, 0), (157, 234, 3, 0), (160, 237, 4, 0), (169, 226, 0, 0), (174, 227, 0, 0), (179, 232, 1, 0), (185, 235, 1, 0), (190, 238, 0, 0), (193, 239, 0, 0), (196, 219, 0, 0), (199, 240, 0, 0), (202, 241, 1, 0), (206, 230, 2, 1), (210, 233, 2, 1), (213, 236, 2, 1), (216, 250, 2, 1), (219, 261, 2, 0), (222, 246, 1, 1), (225, 247, 1, 0), (228, 251, 3, 0), (231, 253, 2, 0), (234, 279, 3, 0), (238, 262, 1, 0), (256, 280, 2, 0), (259, 249, 0, 0), (262, 252, 2, 0), (265, 254, 3, 0), (277, 255, 1, 0), (280, 290, 1, 0), (283, 267, 2, 0), (286, 268, 2, 0), (289, 269, 1, 0), (292, 287, 1, 0), (295, 285, 1, 0), (301, 293, 2, 0), (304, 296, 3, 0), (307, 294, 1, 0), (314, 295, 2, 0), (317, 297, 3, 0), (320, 298, 2, 0), (323, 318, 1, 0), (328, 245, 1, 0), (332, 248, 0, 0), (335, 256, 0, 0), (340, 271, 1, 0), (343, 258, 1, 0), (346, 0, 2, 6), (351, 259, 1, 0), (356, 260, 2, 0), (360, 263, 1, 0), (363, 264, 1, 0), (366, 266, 1, 0), (371, 272, 1, 0), (374, 273, 2, 0), (377, 275, 1, 0), (380, 281, 1, 0), (385, 288, 1, 0), (388, 291, 1, 0), (391, 299, 1, 0), (393, 307, 2, 0), (396, 309, 1, 1), (399, 310, 2, 0), (404, 313, 4, 0), (408, 319, 0, 0), (413, 317, 1, 1), (416, 320, 1, 0), (419, 326, 0, 0), (424, 329, 1, 1), (427, 331, 2, 0), (430, 335, 1, 0), (441, 347, 1, 0), (444, 348, 1, 0)] : List (Nat × Nat × Nat × Nat)), okM 9 e :=
  allm (tg 1367 rfl rfl : okM 9 (3, 0, 0, 5)) <|
  allm (⟨⟨tg 1368 rfl rfl, tg 1370 rfl rfl, tg 27 rfl rfl, ⟨_, _, rfl⟩⟩, rfl, by decide +kernel, Nat.le_of_ble_eq_true rfl⟩ : okM 9 (46, 215, 3, 0)) <|
  allm (⟨⟨tg 1496 rfl rfl, tg 1498 rfl rfl, tg 32 rfl rfl, ⟨_, _, rfl⟩⟩, rfl, by decide +kernel, Nat.le_of_ble_eq_true rfl⟩ : okM 9 (73, 220, 0, 0)) <|
  allm (⟨⟨tg 1502 rfl rfl, tg 1503 rfl rfl⟩, rfl, by decide +kernel, Nat.le_of_ble_eq_true rfl⟩ : okM 9 (81, 221, 3, 1)) <|
  allm (⟨⟨tg 1521 rfl rfl, tg 1523 rfl rfl, tg 36 rfl rfl, ⟨_, _, rfl⟩⟩, rfl, by decide +kernel, Nat.le_of_ble_eq_true rfl⟩ : okM 9 (85, 224, 2, 0)) <|
  allm (⟨⟨tg 1505 rfl rfl, tg 1507 rfl rfl, tg 33 rfl rfl, ⟨_, _, rfl⟩⟩, rfl, by decide +kernel, Nat.le_of_ble_eq_true rfl⟩ : okM 9 (89, 222, 3, 0)) <|
  allm (tg 1509 rfl rfl : okM 9 (104, 0, 0, 9)) <|
  allm (tg 1510 rfl rfl : okM 9 (108, 0, 1, 10)) <|
  allm (⟨⟨tg 1541 rfl rfl, tg 1542 rfl rfl⟩, rfl, by decide +kernel, Nat.le_of_ble_eq_true rfl⟩ : okM 9 (136, 228, 1, 1)) <|
  allm (⟨⟨tg 1492 rfl rfl, tg 1494 rfl rfl, tg 31 rfl rfl, ⟨_, _, rfl⟩⟩, rfl, by decide +kernel, Nat.le_of_ble_eq_true rfl⟩ : okM 9 (140, 223, 1, 0)) <|
  allm (⟨⟨tg 1515 rfl rfl, tg 1517 rfl rfl, tg 35 rfl rfl, ⟨_, _, rfl⟩⟩, rfl, by decide +kernel, Nat.le_of_ble_eq_true rfl⟩ : okM 9 (144, 225, 2, 0)) <|
  allm (⟨⟨tg 1537 rfl rfl, tg 1539 rfl rfl, tg 39 rfl rfl, ⟨_, _, rfl⟩⟩, rfl, by decide +kernel, Nat.le_of_ble_eq_true rfl⟩ : okM 9 (150, 229, 0, 0)) <|
  allm (⟨⟨tg 1556 rfl rfl, tg 1558 rfl rfl, tg 40 rfl rfl, ⟨_, _, rfl⟩⟩, rfl, by decide +kernel, Nat.le_of_ble_eq_true rfl⟩ : okM 9 (153, 231, 2, 0)) <|
  allm (⟨⟨tg 1568 rfl rfl, tg 1570 rfl rfl, tg 42 rfl rfl, ⟨_, _, rfl⟩⟩, rfl, by decide +kernel, Nat.le_of_ble_eq_true rfl⟩ : okM 9 (157, 234, 3, 0)) <|
  allm (⟨⟨tg 1580 rfl rfl, tg 1582 rfl rfl, tg 44 rfl rfl, ⟨_, _, rfl⟩⟩, rfl, by decide +kernel, Nat.le_of_ble_eq_true rfl⟩ : okM 9 (160, 237, 4, 0)) <|
  allm (⟨⟨tg 1511 rfl rfl, tg 1513 rfl rfl, tg 34 rfl rfl, ⟨_, _, rfl⟩⟩, rfl, by decide +kernel, Nat.le_of_ble_eq_true rfl⟩ : okM 9 (169, 226, 0, 0)) <|
  allm (⟨⟨tg 1528 rfl rfl, tg 1530 rfl rfl, tg 37 rfl rfl, ⟨_, _, rfl⟩⟩, rfl, by decide +kernel, Nat.le_of_ble_eq_true rfl⟩ : okM 9 (174, 227, 0, 0)) <|
  allm (⟨⟨tg 1533 rfl rfl, tg 1535 rfl rfl, tg 38 rfl rfl, ⟨_, _, rfl⟩⟩, rfl, by decide +kernel, Nat.le_of_ble_eq_true rfl⟩ : okM 9 (179, 232, 1, 0)) <|
  allm (⟨⟨tg 1564 rfl rfl, tg 1566 rfl rfl, tg 41 rfl rfl, ⟨_, _, rfl⟩⟩, rfl, by decide +kernel, Nat.le_of_ble_eq_true rfl⟩ : okM 9 (185, 235, 1, 0)) <|
  allm (⟨⟨tg 1576 rfl rfl, tg 1578 rfl rfl, tg 43 rfl rfl, ⟨_, _, rfl⟩⟩, rfl, by decide +kernel, Nat.le_of_ble_eq_true rfl⟩ : okM 9 (190, 238, 0, 0)) <|
  allm (⟨⟨tg 1487 rfl rfl, tg 1489 rfl rfl, tg 30 rfl rfl, ⟨_, _, rfl⟩⟩, rfl, by decide +kernel, Nat.le_of_ble_eq_true rfl⟩ : okM 9 (193, 239, 0, 0)) <|
  allm (⟨⟨tg 1479 rfl rfl, tg 1481 rfl rfl, tg 28 rfl rfl, ⟨_, _, rfl⟩⟩, rfl, by decide +kernel, Nat.le_of_ble_eq_true rfl⟩ : okM 9 (196, 219, 0, 0)) <|
  allm (⟨⟨tg 1483 rfl rfl, tg 1485 rfl rfl, tg 29 rfl rfl, ⟨_, _, rfl⟩⟩, rfl, by decide +kernel, Nat.le_of_ble_eq_true rfl⟩ : okM 9 (199, 240, 0, 0)) <|
  allm (⟨⟨tg 1587 rfl rfl, tg 1589 rfl rfl, tg 45 rfl rfl, ⟨_, _, rfl⟩⟩, rfl, by decide +kernel, Nat.le_of_ble_eq_true rfl⟩ : okM 9 (202, 241, 1, 0)) <|
  allm (⟨⟨tg 1560 rfl rfl, tg 1561 rfl rfl⟩, rfl, by decide +kernel, Nat.le_of_ble_eq_true rfl⟩ : okM 9 (206, 230, 2, 1)) <|
  allm (⟨⟨tg 1572 rfl rfl, tg 1573 rfl rfl⟩, rfl, by decide +kernel, Nat.le_of_ble_eq_true rfl⟩ : okM 9 (210, 233, 2, 1)) <|
  allm (⟨⟨tg 1584 rfl rfl, tg 1585 rfl rfl⟩, rfl, by decide +kernel, Nat.le_of_ble_eq_true rfl⟩ : okM 9 (213, 236, 2, 1)) <|
  allm (⟨⟨tg 1640 rfl rfl, tg 1641 rfl rfl⟩, rfl, by decide +kernel, Nat.le_of_ble_eq_true rfl⟩ : okM 9 (216, 250, 2, 1)) <|
  allm (⟨⟨tg 1668 rfl rfl, tg 1670 rfl rfl, tg 59 rfl rfl, ⟨_, _, rfl⟩⟩, rfl, by decide +kernel, Nat.le_of_ble_eq_true rfl⟩ : okM 9 (219, 261, 2, 0)) <|
  allm (⟨⟨tg 1616 rfl rfl, tg 1617 rfl rfl⟩, rfl, by decide +kernel, Nat.le_of_ble_eq_true rfl⟩ : okM 9 (222, 246, 1, 1)) <|
  allm (⟨⟨tg 1612 rfl rfl, tg 1614 rfl rfl, tg 48 rfl rfl, ⟨_, _, rfl⟩⟩, rfl, by decide +kernel, Nat.le_of_ble_eq_true rfl⟩ : okM 9 (225, 247, 1, 0)) <|
  allm (⟨⟨tg 1636 rfl rfl, tg 1638 rfl rfl, tg 53 rfl rfl, ⟨_, _, rfl⟩⟩, rfl, by decide +kernel, Nat.le_of_ble_eq_true rfl⟩ : okM 9 (228, 251, 3, 0)) <|
  allm (⟨⟨tg 1647 rfl rfl, tg 1649 rfl rfl, tg 55 rfl rfl, ⟨_, _, rfl⟩⟩, rfl, by decide +kernel, Nat.le_of_ble_eq_true rfl⟩ : okM 9 (231, 253, 2, 0)) <|
  allm (⟨⟨tg 1750 rfl rfl, tg 1752 rfl rfl, tg 73 rfl rfl, ⟨_, _, rfl⟩⟩, rfl, by decide +kernel, Nat.le_of_ble_eq_true rfl⟩ : okM 9 (234, 279, 3, 0)) <|
  allm (⟨⟨tg 1672 rfl rfl, tg 1674 rfl rfl, tg 60 rfl rfl, ⟨_, _, rfl⟩⟩, rfl, by decide +kernel, Nat.le_of_ble_eq_true rfl⟩ : okM 9 (238, 262, 1, 0)) <|
  allm (⟨⟨tg 1746 rfl rfl, tg 1748 rfl rfl, tg 72 rfl rfl, ⟨_, _, rfl⟩⟩, rfl, by decide +kernel, Nat.le_of_ble_eq_true rfl⟩ : okM 9 (256, 280, 2, 0)) <|
  allm (⟨⟨tg 1628 rfl rfl, tg 1630 rfl rfl, tg 51 rfl rfl, ⟨_, _, rfl⟩⟩, rfl, by decide +kernel, Nat.le_of_ble_eq_true rfl⟩ : okM 9 (259, 249, 0, 0)) <|
  allm (⟨⟨tg 1632 rfl rfl, tg 1634 rfl rfl, tg 52 rfl rfl, ⟨_, _, rfl⟩⟩, rfl, by decide +kernel, Nat.le_of_ble_eq_true rfl⟩ : okM 9 (262, 252, 2, 0)) <|
  allm (⟨⟨tg 1643 rfl rfl, tg 1645 rfl rfl, tg 54 rfl rfl, ⟨_, _, rfl⟩⟩, rfl, by decide +kernel, Nat.le_of_ble_eq_true rfl⟩ : okM 9 (265, 254, 3, 0)) <|
  allm (⟨⟨tg 1624 rfl rfl, tg 1626 rfl rfl, tg 50 rfl rfl, ⟨_, _, rfl⟩⟩, rfl, by decide +kernel, Nat.le_of_ble_eq_true rfl⟩ : okM 9 (277, 255, 1, 0)) <|
  allm (⟨⟨tg 1791 rfl rfl, tg 1793 rfl rfl, tg 78 rfl rfl, ⟨_, _, rfl⟩⟩, rfl, by decide +kernel, Nat.le_of_ble_eq_true rfl⟩ : okM 9 (280, 290, 1, 0)) <|
  allm (⟨⟨tg 1702 rfl rfl, tg 1704 rfl rfl, tg 66 rfl rfl, ⟨_, _, rfl⟩⟩, rfl, by decide +kernel, Nat.le_of_ble_eq_true rfl⟩ : okM 9 (283, 267, 2, 0)) <|
  allm (⟨⟨tg 1698 rfl rfl, tg 1700 rfl rfl, tg 65 rfl rfl, ⟨_, _, rfl⟩⟩, rfl, by decide +kernel, Nat.le_of_ble_eq_true rfl⟩ : okM 9 (286, 268, 2, 0)) <|
  allm (⟨⟨tg 1694 rfl rfl, tg 1696 rfl rfl, tg 64 rfl rfl, ⟨_, _, rfl⟩⟩, rfl, by decide +kernel, Nat.le_of_ble_eq_true rfl⟩ : okM 9 (289, 269, 1, 0)) <|
  allm (⟨⟨tg 1779 rfl rfl, tg 1781 rfl rfl, tg 76 rfl rfl, ⟨_, _, rfl⟩⟩, rfl, by decide +kernel, Nat.le_of_ble_eq_true rfl⟩ : okM 9 (292, 287, 1, 0)) <|
  allm (⟨⟨tg 1767 rfl rfl, tg 1769 rfl rfl, tg 74 rfl rfl, ⟨_, _, rfl⟩⟩, rfl, by decide +kernel, Nat.le_of_ble_eq_true rfl⟩ : okM 9 (295, 285, 1, 0)) <|
  allm (⟨⟨tg 1811 rfl rfl, tg 1813 rfl rfl, tg 82 rfl rfl, ⟨_, _, rfl⟩⟩, rfl, by decide +kernel, Nat.le_of_ble_eq_true rfl⟩ : okM 9 (301, 293, 2, 0)) <|
  allm (⟨⟨tg 1823 rfl rfl, tg 1825 rfl rfl, tg 85 rfl rfl, ⟨_, _, rfl⟩⟩, rfl, by decide +kernel, Nat.le_of_ble_eq_true rfl⟩ : okM 9 (304, 296, 3, 0)) <|
  allm (⟨⟨tg 1807 rfl rfl, tg 1809 rfl rfl, tg 81 rfl rfl, ⟨_, _, rfl⟩⟩, rfl, by decide +kernel, Nat.le_of_ble_eq_true rfl⟩ : okM 9 (307, 294, 1, 0)) <|
  allm (⟨⟨tg 1815 rfl rfl, tg 1817 rfl rfl, tg 83 rfl rfl, ⟨_, _, rfl⟩⟩, rfl, by decide +kernel, Nat.le_of_ble_eq_true rfl⟩ : okM 9 (314, 295, 2, 0)) <|
  allm (⟨⟨tg 1819 rfl rfl, tg 1821 rfl rfl, tg 84 rfl rfl, ⟨_, _, rfl⟩⟩, rfl, by decide +kernel, Nat.le_of_ble_eq_true rfl⟩ : okM 9 (317, 297, 3, 0)) <|
  allm (⟨⟨tg 1803 rfl rfl, tg 1805 rfl rfl, tg 80 rfl rfl, ⟨_, _, rfl⟩⟩, rfl, by decide +kernel, Nat.le_of_ble_eq_true rfl⟩ : okM 9 (320, 298, 2, 0)) <|
  allm (⟨⟨tg 1908 rfl rfl, tg 1910 rfl rfl, tg 91 rfl rfl, ⟨_, _, rfl⟩⟩, rfl, by decide +kernel, Nat.le_of_ble_eq_true rfl⟩ : okM 9 (323, 318, 1, 0)) <|
  allm (⟨⟨tg 1604 rfl rfl, tg 1606 rfl rfl, tg 46 rfl rfl, ⟨_, _, rfl⟩⟩, rfl, by decide +kernel, Nat.le_of_ble_eq_true rfl⟩ : okM 9 (328, 245, 1, 0)) <|
  allm (⟨⟨tg 1608 rfl rfl, tg 1610 rfl rfl, tg 47 rfl rfl, ⟨_, _, rfl⟩⟩, rfl, by decide +kernel, Nat.le_of_ble_eq_true rfl⟩ : okM 9 (332, 248, 0, 0)) <|
  allm (⟨⟨tg 1619 rfl rfl, tg 1621 rfl rfl, tg 49 rfl rfl, ⟨_, _, rfl⟩⟩, rfl, by decide +kernel, Nat.le_of_ble_eq_true rfl⟩ : okM 9 (335, 256, 0, 0)) <|
  allm (⟨⟨tg 1714 rfl rfl, tg 1716 rfl rfl, tg 68 rfl rfl, ⟨_, _, rfl⟩⟩, rfl, by decide +kernel, Nat.le_of_ble_eq_true rfl⟩ : okM 9 (340, 271, 1, 0)) <|
  allm (⟨⟨tg 1659 rfl rfl, tg 1661 rfl rfl, tg 57 rfl rfl, ⟨_, _, rfl⟩⟩, rfl, by decide +kernel, Nat.le_of_ble_eq_true rfl⟩ : okM 9 (343, 258, 1, 0)) <|
  allm (tg 1684 rfl rfl : okM 9 (346, 0, 2, 6)) <|
  allm (⟨⟨tg 1655 rfl rfl, tg 1657 rfl rfl, tg 56 rfl rfl, ⟨_, _, rfl⟩⟩, rfl, by decide +kernel, Nat.le_of_ble_eq_true rfl⟩ : okM 9 (351, 259, 1, 0)) <|
  okM_9_1
theorem okM_9 : ∀ e ∈ kM 9, okM 9 e := okM_9_0
set_option maxRecDepth 100000 in
theorem okM_10 : ∀ e ∈ kM 10, okM 10 e :=
  alln
set_option maxRecDepth 100000 in
theorem okM_11 : ∀ e ∈ kM 11, okM 11 e :=
  alln
set_option maxRecDepth 100000 in
theorem okM_12 : ∀ e ∈ kM 12, okM 12 e :=
  alln
set_option maxRecDepth 100000 in
theorem okM_13_2 : ∀ e ∈ ([(291, 325, 0, 0), (292, 166, 5, 4), (294, 327, 3, 0), (295, 169, 3, 4), (297, 328, 1, 0), (298, 171, 4, 4), (300, 330, 2, 0), (301, 173, 4, 4), (303, 332, 2, 0), (304, 175, 4, 4), (306, 333, 2, 0), (307, 177, 6, 4), (310, 334, 4, 0), (311, 179, 3, 4), (313, 336, 1, 0), (314, 182, 3, 4), (316, 337, 1, 0), (317, 186, 4, 4), (319, 338, 2, 0), (320, 189, 4, 4), (322, 339, 2, 0), (323, 194, 3, 4), (325, 340, 1, 0), (326, 196, 3, 4), (328, 341, 1, 0), (329, 198, 3, 4), (331, 342, 1, 0), (332, 200, 3, 4), (334, 343, 1, 0), (335, 202, 3, 4), (337, 344, 1, 0), (338, 204, 3, 4), (341, 345, 1, 0), (342, 53, 0, 0), (346, 346, 0, 0), (347, 208, 4, 4), (349, 349, 2, 0), (350, 210, 4, 4), (352, 350, 2, 0), (353, 54, 1, 0), (356, 351, 1, 0), (357, 56, 0, 0), (360, 352, 0, 0), (361, 212, 3, 4), (363, 353, 1, 0), (364, 214, 3, 4), (366, 354, 1, 0)] : List (Nat × Nat × Nat × Nat)), okM 13 e :=
  allm (⟨⟨tg 1924 rfl rfl, tg 1925 rfl rfl, tg 1926 rfl rfl, ⟨_, _, rfl⟩⟩, rfl, by decide +kernel, Nat.le_of_ble_eq_true rfl⟩ : okM 13 (291, 325, 0, 0)) <|
  allm (⟨⟨tg 1170 rfl rfl, tg 1171 rfl rfl⟩, rfl, by decide +kernel, Nat.le_of_ble_eq_true rfl⟩ : okM 13 (292, 166, 5, 4)) <|
  allm (⟨⟨tg 1928 rfl rfl, tg 1929 rfl rfl, tg 1930 rfl rfl, ⟨_, _, rfl⟩⟩, rfl, by decide +kernel, Nat.le_of_ble_eq_true rfl⟩ : okM 13 (294, 327, 3, 0)) <|
  allm (⟨⟨tg 1182 rfl rfl, tg 1183 rfl rfl⟩, rfl, by decide +kernel, Nat.le_of_ble_eq_true rfl⟩ : okM 13 (295, 169, 3, 4)) <|
  allm (⟨⟨tg 1936 rfl rfl, tg 1937 rfl rfl, tg 1938 rfl rfl, ⟨_, _, rfl⟩⟩, rfl, by decide +kernel, Nat.le_of_ble_eq_true rfl⟩ : okM 13 (297, 328, 1, 0)) <|
  allm (⟨⟨tg 1193 rfl rfl, tg 1194 rfl rfl⟩, rfl, by decide +kernel, Nat.le_of_ble_eq_true rfl⟩ : okM 13 (298, 171, 4, 4)) <|
  allm (⟨⟨tg 1940 rfl rfl, tg 1941 rfl rfl, tg 1942 rfl rfl, ⟨_, _, rfl⟩⟩, rfl, by decide +kernel, Nat.le_of_ble_eq_true rfl⟩ : okM 13 (300, 330, 2, 0)) <|
  allm (⟨⟨tg 1200 rfl rfl, tg 1201 rfl rfl⟩, rfl, by decide +kernel, Nat.le_of_ble_eq_true rfl⟩ : okM 13 (301, 173, 4, 4)) <|
  allm (⟨⟨tg 1948 rfl rfl, tg 1949 rfl rfl, tg 1950 rfl rfl, ⟨_, _, rfl⟩⟩, rfl, by decide +kernel, Nat.le_of_ble_eq_true rfl⟩ : okM 13 (303, 332, 2, 0)) <|
  allm (⟨⟨tg 1207 rfl rfl, tg 1208 rfl rfl⟩, rfl, by decide +kernel, Nat.le_of_ble_eq_true rfl⟩ : okM 13 (304, 175, 4, 4)) <|
  allm (⟨⟨tg 1956 rfl rfl, tg 1957 rfl rfl, tg 1958 rfl rfl, ⟨_, _, rfl⟩⟩, rfl, by decide +kernel, Nat.le_of_ble_eq_true rfl⟩ : okM 13 (306, 333, 2, 0)) <|
  allm (⟨⟨tg 1214 rfl rfl, tg 1215 rfl rfl⟩, rfl, by decide +kernel, Nat.le_of_ble_eq_true rfl⟩ : okM 13 (307, 177, 6, 4)) <|
  allm (⟨⟨tg 1960 rfl rfl, tg 1961 rfl rfl, tg 1962 rfl rfl, ⟨_, _, rfl⟩⟩, rfl, by decide +kernel, Nat.le_of_ble_eq_true rfl⟩ : okM 13 (310, 334, 4, 0)) <|
  allm (⟨⟨tg 1222 rfl rfl, tg 1223 rfl rfl⟩, rfl, by decide +kernel, Nat.le_of_ble_eq_true rfl⟩ : okM 13 (311, 179, 3, 4)) <|
  allm (⟨⟨tg 1964 rfl rfl, tg 1965 rfl rfl, tg 1966 rfl rfl, ⟨_, _, rfl⟩⟩, rfl, by decide +kernel, Nat.le_of_ble_eq_true rfl⟩ : okM 13 (313, 336, 1, 0)) <|
  allm (⟨⟨tg 1230 rfl rfl, tg 1231 rfl rfl⟩, rfl, by decide +kernel, Nat.le_of_ble_eq_true rfl⟩ : okM 13 (314, 182, 3, 4)) <|
  allm (⟨⟨tg 1972 rfl rfl, tg 1973 rfl rfl, tg 1974 rfl rfl, ⟨_, _, rfl⟩⟩, rfl, by decide +kernel, Nat.le_of_ble_eq_true rfl⟩ : okM 13 (316, 337, 1, 0)) <|
  allm (⟨⟨tg 1241 rfl rfl, tg 1242 rfl rfl⟩, rfl, by decide +kernel, Nat.le_of_ble_eq_true rfl⟩ : okM 13 (317, 186, 4, 4)) <|
  allm (⟨⟨tg 1976 rfl rfl, tg 1977 rfl rfl, tg 1978 rfl rfl, ⟨_, _, rfl⟩⟩, rfl, by decide +kernel, Nat.le_of_ble_eq_true rfl⟩ : okM 13 (319, 338, 2, 0)) <|
  allm (⟨⟨tg 1256 rfl rfl, tg 1257 rfl rfl⟩, rfl, by decide +kernel, Nat.le_of_ble_eq_true rfl⟩ : okM 13 (320, 189, 4, 4)) <|
  allm (⟨⟨tg 1981 rfl rfl, tg 1982 rfl rfl, tg 1983 rfl rfl, ⟨_, _, rfl⟩⟩, rfl, by decide +kernel, Nat.le_of_ble_eq_true rfl⟩ : okM 13 (322, 339, 2, 0)) <|
  allm (⟨⟨tg 1268 rfl rfl, tg 1269 rfl rfl⟩, rfl, by decide +kernel, Nat.le_of_ble_eq_true rfl⟩ : okM 13 (323, 194, 3, 4)) <|
  allm (⟨⟨tg 1985 rfl rfl, tg 1986 rfl rfl, tg 1987 rfl rfl, ⟨_, _, rfl⟩⟩, rfl, by decide +kernel, Nat.le_of_ble_eq_true rfl⟩ : okM 13 (325, 340, 1, 0)) <|
  allm (⟨⟨tg 1286 rfl rfl, tg 1287 rfl rfl⟩, rfl, by decide +kernel, Nat.le_of_ble_eq_true rfl⟩ : okM 13 (326, 196, 3, 4)) <|
  allm (⟨⟨tg 1989 rfl rfl, tg 1990 rfl rfl, tg 1991 rfl rfl, ⟨_, _, rfl⟩⟩, rfl, by decide +kernel, Nat.le_of_ble_eq_true rfl⟩ : okM 13 (328, 341, 1, 0)) <|
  allm (⟨⟨tg 1293 rfl rfl, tg 1294 rfl rfl⟩, rfl, by decide +kernel, Nat.le_of_ble_eq_true rfl⟩ : okM 13 (329, 198, 3, 4)) <|
  allm (⟨⟨tg 1994 rfl rfl, tg 1995 rfl rfl, tg 1996 rfl rfl, ⟨_, _, rfl⟩⟩, rfl, by decide +kernel, Nat.le_of_ble_eq_true rfl⟩ : okM 13 (331, 342, 1, 0)) <|
  allm (⟨⟨tg 1300 rfl rfl, tg 1301 rfl rfl⟩, rfl, by decide +kernel, Nat.le_of_ble_eq_true rfl⟩ : okM 13 (332, 200, 3, 4)) <|
  allm (⟨⟨tg 1998 rfl rfl, tg 1999 rfl rfl, tg 2000 rfl rfl, ⟨_, _, rfl⟩⟩, rfl, by decide +kernel, Nat.le_of_ble_eq_true rfl⟩ : okM 13 (334, 343, 1, 0)) <|
  allm (⟨⟨tg 1307 rfl rfl, tg 1308 rfl rfl⟩, rfl, by decide +kernel, Nat.le_of_ble_eq_true rfl⟩ : okM 13 (335, 202, 3, 4)) <|
  allm (⟨⟨tg 2002 rfl rfl, tg 2003 rfl rfl, tg 2004 rfl rfl, ⟨_, _, rfl⟩⟩, rfl, by decide +kernel, Nat.le_of_ble_eq_true rfl⟩ : okM 13 (337, 344, 1, 0)) <|
  allm (⟨⟨tg 1315 rfl rfl, tg 1316 rfl rfl⟩, rfl, by decide +kernel, Nat.le_of_ble_eq_true rfl⟩ : okM 13 (338, 204, 3, 4)) <|
  allm (⟨⟨tg 2007 rfl rfl, tg 2008 rfl rfl, tg 2009 rfl rfl, ⟨_, _, rfl⟩⟩, rfl, by decide +kernel, Nat.le_of_ble_eq_true rfl⟩ : okM 13 (341, 345, 1, 0)) <|
  allm (⟨⟨tg 643 rfl rfl, tg 644 rfl rfl, tg 645 rfl rfl, ⟨_, _, rfl⟩⟩, rfl, by decide +kernel, Nat.le_of_ble_eq_true rfl⟩ : okM 13 (342, 53, 0, 0)) <|
  allm (⟨⟨tg 2011 rfl rfl, tg 2012 rfl rfl, tg 2013 rfl rfl, ⟨_, _, rfl⟩⟩, rfl, by decide +kernel, Nat.le_of_ble_eq_true rfl⟩ : okM 13 (346, 346, 0, 0)) <|
  allm (⟨⟨tg 1322 rfl rfl, tg 1323 rfl rfl⟩, rfl, by decide +kernel, Nat.le_of_ble_eq_true rfl⟩ : okM 13 (347, 208, 4, 4)) <|
  allm (⟨⟨tg 2015 rfl rfl, tg 2016 rfl rfl, tg 2017 rfl rfl, ⟨_, _, rfl⟩⟩, rfl, by decide +kernel, Nat.le_of_ble_eq_true rfl⟩ : okM 13 (349, 349, 2, 0)) <|
  allm (⟨⟨tg 1341 rfl rfl, tg 1342 rfl rfl⟩, rfl, by decide +kernel, Nat.le_of_ble_eq_true rfl⟩ : okM 13 (350, 210, 4, 4)) <|
  allm (⟨⟨tg 2027 rfl rfl, tg 2028 rfl rfl, tg 2029 rfl rfl, ⟨_, _, rfl⟩⟩, rfl, by decide +kernel, Nat.le_of_ble_eq_true rfl⟩ : okM 13 (352, 350, 2, 0)) <|
  allm (⟨⟨tg 651 rfl rfl, tg 652 rfl rfl, tg 653 rfl rfl, ⟨_, _, rfl⟩⟩, rfl, by decide +kernel, Nat.le_of_ble_eq_true rfl⟩ : okM 13 (353, 54, 1, 0)) <|
  allm (⟨⟨tg 2031 rfl rfl, tg 2032 rfl rfl, tg 2033 rfl rfl, ⟨_, _, rfl⟩⟩, rfl, by decide +kernel, Nat.le_of_ble_eq_true rfl⟩ : okM 13 (356, 351, 1, 0)) <|
  allm (⟨⟨tg 655 rfl rfl, tg 656 rfl rfl, tg 657 rfl rfl, ⟨_, _, rfl⟩⟩, rfl, by decide +kernel, Nat.le_of_ble_eq_true rfl⟩ : okM 13 (357, 56, 0, 0)) <|
  allm (⟨⟨tg 2035 rfl rfl, tg 2036 rfl rfl, tg 2037 rfl rfl, ⟨_, _, rfl⟩⟩, rfl, by decide +kernel, Nat.le_of_ble_eq_true rfl⟩ : okM 13 (360, 352, 0, 0)) <|
  allm (⟨⟨tg 1348 rfl rfl, tg 1349 rfl rfl⟩, rfl, by decide +kernel, Nat.le_of_ble_eq_true rfl⟩ : okM 13 (361, 212, 3, 4)) <|
  allm (⟨⟨tg 2039 rfl rfl, tg 2040 rfl rfl, tg 2041 rfl rfl, ⟨_, _, rfl⟩⟩, rfl, by decide +kernel, Nat.le_of_ble_eq_true rfl⟩ : okM 13 (363, 353, 1, 0)) <|
  allm (⟨⟨tg 1355 rfl rfl, tg 1356 rfl rfl⟩, rfl, by decide +kernel, Nat.le_of_ble_eq_true rfl⟩ : okM 13 (364, 214, 3, 4)) <|
  allm (⟨⟨tg 2043 rfl rfl, tg 2044 rfl rfl, tg 2045 rfl rfl, ⟨_, _, rfl⟩⟩, rfl, by decide +kernel, Nat.le_of_ble_eq_true rfl⟩ : okM 13 (366, 354, 1, 0)) <|
  alln
set_option maxRecDepth 100000 in
theorem okM_13_1 : ∀ e ∈ ([(194, 217, 0, 0), (197, 70, 4, 4), (200, 265, 2, 0), (201, 75, 4, 4), (203, 270, 2, 0), (204, 80, 5, 4), (207, 274, 3, 0), (208, 83, 5, 4), (210, 276, 3, 0), (211, 86, 4, 4), (213, 277, 2, 0), (214, 89, 3, 4), (216, 278, 1, 0), (217, 94, 3, 4), (219, 282, 1, 0), (220, 98, 5, 4), (222, 283, 3, 0), (223, 105, 4, 4), (225, 284, 2, 0), (226, 109, 3, 4), (228, 286, 1, 0), (229, 111, 3, 4), (231, 289, 1, 0), (232, 114, 3, 4), (234, 292, 1, 0), (235, 126, 3, 4), (237, 300, 1, 0), (238, 128, 3, 4), (240, 301, 1, 0), (241, 132, 3, 4), (243, 302, 1, 0), (244, 135, 3, 4), (246, 303, 1, 0), (247, 137, 3, 4), (249, 304, 1, 0), (250, 139, 3, 4), (252, 305, 1, 0), (253, 142, 3, 4), (255, 306, 1, 0), (256, 145, 3, 4), (258, 308, 1, 0), (259, 148, 4, 4), (261, 311, 2, 0), (262, 150, 3, 4), (264, 312, 1, 0), (265, 153, 5, 4), (267, 314, 3, 0), (268, 156, 3, 4), (270, 315, 1, 0), (271, 159, 4, 4), (273, 316, 2, 0), (274, 161, 3, 4), (276, 321, 1, 0), (277, 163, 3, 4), (279, 322, 1, 0), (280, 49, 0, 0), (283, 323, 0, 0), (284, 50, 0, 0), (287, 324, 0, 0), (288, 51, 0, 0), (291, 325, 0, 0), (292, 166, 5, 4), (294, 327, 3, 0), (295, 169, 3, 4), (297, 328, 1, 0), (298, 171, 4, 4), (300, 330, 2, 0), (301, 173, 4, 4), (303, 332, 2, 0), (304, 175, 4, 4), (306, 333, 2, 0), (307, 177, 6, 4), (310, 334, 4, 0), (311, 179, 3, 4), (313, 336, 1, 0), (314, 182, 3, 4), (316, 337, 1, 0), (317, 186, 4, 4), (319, 338, 2, 0), (320, 189, 4, 4), (322, 339, 2, 0), (323, 194, 3, 4), (325, 340, 1, 0), (326, 196, 3, 4), (328, 341, 1, 0), (329, 198, 3, 4), (331, 342, 1, 0), (332, 200, 3, 4), (334, 343, 1, 0), (335, 202, 3, 4), (337, 344, 1, 0), (338, 204, 3, 4), (341, 345, 1, 0), (342, 53, 0, 0), (346, 346, 0, 0), (347, 208, 4, 4), (349, 349, 2, 0), (350, 210, 4, 4), (352, 350, 2, 0), (353, 54, 1, 0), (356, 351, 1, 0), (357, 56, 0, 0), (360, 352, 0, 0), (361, 212, 3, 4), (363, 353, 1, 0), (364, 214, 3, 4), (366, 354, 1, 0)] : List (Nat × Nat × Nat × Nat)), okM 13 e :=
  allm (⟨⟨tg 1466 rfl rfl, tg 1467 rfl rfl, tg 1468 rfl rfl, ⟨_, _, rfl⟩⟩, rfl, by decide +kernel, Nat.le_of_ble_eq_true rfl⟩ : okM 13 (194, 217, 0, 0)) <|
  allm (⟨⟨tg 771 rfl rfl, tg 772 rfl rfl⟩, rfl, by decide +kernel, Nat.le_of_ble_eq_true rfl⟩ : okM 13 (197, 70, 4, 4)) <|
  allm (⟨⟨tg 1651 rfl rfl, tg 1652 rfl rfl, tg 1653 rfl rfl, ⟨_, _, rfl⟩⟩, rfl, by decide +kernel, Nat.le_of_ble_eq_true rfl⟩ : okM 13 (200, 265, 2, 0)) <|
  allm (⟨⟨tg 805 rfl rfl, tg 806 rfl rfl⟩, rfl, by decide +kernel, Nat.le_of_ble_eq_true rfl⟩ : okM 13 (201, 75, 4, 4)) <|
  allm (⟨⟨tg 1685 rfl rfl, tg 1686 rfl rfl, tg 1687 rfl rfl, ⟨_, _, rfl⟩⟩, rfl, by decide +kernel, Nat.le_of_ble_eq_true rfl⟩ : okM 13 (203, 270, 2, 0)) <|
  allm (⟨⟨tg 825 rfl rfl, tg 826 rfl rfl⟩, rfl, by decide +kernel, Nat.le_of_ble_eq_true rfl⟩ : okM 13 (204, 80, 5, 4)) <|
  allm (⟨⟨tg 1706 rfl rfl, tg 1707 rfl rfl, tg 1708 rfl rfl, ⟨_, _, rfl⟩⟩, rfl, by decide +kernel, Nat.le_of_ble_eq_true rfl⟩ : okM 13 (207, 274, 3, 0)) <|
  allm (⟨⟨tg 845 rfl rfl, tg 846 rfl rfl⟩, rfl, by decide +kernel, Nat.le_of_ble_eq_true rfl⟩ : okM 13 (208, 83, 5, 4)) <|
  allm (⟨⟨tg 1722 rfl rfl, tg 1723 rfl rfl, tg 1724 rfl rfl, ⟨_, _, rfl⟩⟩, rfl, by decide +kernel, Nat.le_of_ble_eq_true rfl⟩ : okM 13 (210, 276, 3, 0)) <|
  allm (⟨⟨tg 858 rfl rfl, tg 859 rfl rfl⟩, rfl, by decide +kernel, Nat.le_of_ble_eq_true rfl⟩ : okM 13 (211, 86, 4, 4)) <|
  allm (⟨⟨tg 1730 rfl rfl, tg 1731 rfl rfl, tg 1732 rfl rfl, ⟨_, _, rfl⟩⟩, rfl, by decide +kernel, Nat.le_of_ble_eq_true rfl⟩ : okM 13 (213, 277, 2, 0)) <|
  allm (⟨⟨tg 869 rfl rfl, tg 870 rfl rfl⟩, rfl, by decide +kernel, Nat.le_of_ble_eq_true rfl⟩ : okM 13 (214, 89, 3, 4)) <|
  allm (⟨⟨tg 1734 rfl rfl, tg 1735 rfl rfl, tg 1736 rfl rfl, ⟨_, _, rfl⟩⟩, rfl, by decide +kernel, Nat.le_of_ble_eq_true rfl⟩ : okM 13 (216, 278, 1, 0)) <|
  allm (⟨⟨tg 882 rfl rfl, tg 883 rfl rfl⟩, rfl, by decide +kernel, Nat.le_of_ble_eq_true rfl⟩ : okM 13 (217, 94, 3, 4)) <|
  allm (⟨⟨tg 1738 rfl rfl, tg 1739 rfl rfl, tg 1740 rfl rfl, ⟨_, _, rfl⟩⟩, rfl, by decide +kernel, Nat.le_of_ble_eq_true rfl⟩ : okM 13 (219, 282, 1, 0)) <|
  allm (⟨⟨tg 902 rfl rfl, tg 903 rfl rfl⟩, rfl, by decide +kernel, Nat.le_of_ble_eq_true rfl⟩ : okM 13 (220, 98, 5, 4)) <|
  allm (⟨⟨tg 1754 rfl rfl, tg 1755 rfl rfl, tg 1756 rfl rfl, ⟨_, _, rfl⟩⟩, rfl, by decide +kernel, Nat.le_of_ble_eq_true rfl⟩ : okM 13 (222, 283, 3, 0)) <|
  allm (⟨⟨tg 918 rfl rfl, tg 919 rfl rfl⟩, rfl, by decide +kernel, Nat.le_of_ble_eq_true rfl⟩ : okM 13 (223, 105, 4, 4)) <|
  allm (⟨⟨tg 1758 rfl rfl, tg 1759 rfl rfl, tg 1760 rfl rfl, ⟨_, _, rfl⟩⟩, rfl, by decide +kernel, Nat.le_of_ble_eq_true rfl⟩ : okM 13 (225, 284, 2, 0)) <|
  allm (⟨⟨tg 945 rfl rfl, tg 946 rfl rfl⟩, rfl, by decide +kernel, Nat.le_of_ble_eq_true rfl⟩ : okM 13 (226, 109, 3, 4)) <|
  allm (⟨⟨tg 1763 rfl rfl, tg 1764 rfl rfl, tg 1765 rfl rfl, ⟨_, _, rfl⟩⟩, rfl, by decide +kernel, Nat.le_of_ble_eq_true rfl⟩ : okM 13 (228, 286, 1, 0)) <|
  allm (⟨⟨tg 961 rfl rfl, tg 962 rfl rfl⟩, rfl, by decide +kernel, Nat.le_of_ble_eq_true rfl⟩ : okM 13 (229, 111, 3, 4)) <|
  allm (⟨⟨tg 1771 rfl rfl, tg 1772 rfl rfl, tg 1773 rfl rfl, ⟨_, _, rfl⟩⟩, rfl, by decide +kernel, Nat.le_of_ble_eq_true rfl⟩ : okM 13 (231, 289, 1, 0)) <|
  allm (⟨⟨tg 969 rfl rfl, tg 970 rfl rfl⟩, rfl, by decide +kernel, Nat.le_of_ble_eq_true rfl⟩ : okM 13 (232, 114, 3, 4)) <|
  allm (⟨⟨tg 1783 rfl rfl, tg 1784 rfl rfl, tg 1785 rfl rfl, ⟨_, _, rfl⟩⟩, rfl, by decide +kernel, Nat.le_of_ble_eq_true rfl⟩ : okM 13 (234, 292, 1, 0)) <|
  allm (⟨⟨tg 980 rfl rfl, tg 981 rfl rfl⟩, rfl, by decide +kernel, Nat.le_of_ble_eq_true rfl⟩ : okM 13 (235, 126, 3, 4)) <|
  allm (⟨⟨tg 1795 rfl rfl, tg 1796 rfl rfl, tg 1797 rfl rfl, ⟨_, _, rfl⟩⟩, rfl, by decide +kernel, Nat.le_of_ble_eq_true rfl⟩ : okM 13 (237, 300, 1, 0)) <|
  allm (⟨⟨tg 1030 rfl rfl, tg 1031 rfl rfl⟩, rfl, by decide +kernel, Nat.le_of_ble_eq_true rfl⟩ : okM 13 (238, 128, 3, 4)) <|
  allm (⟨⟨tg 1827 rfl rfl, tg 1828 rfl rfl, tg 1829 rfl rfl, ⟨_, _, rfl⟩⟩, rfl, by decide +kernel, Nat.le_of_ble_eq_true rfl⟩ : okM 13 (240, 301, 1, 0)) <|
  allm (⟨⟨tg 1037 rfl rfl, tg 1038 rfl rfl⟩, rfl, by decide +kernel, Nat.le_of_ble_eq_true rfl⟩ : okM 13 (241, 132, 3, 4)) <|
  allm (⟨⟨tg 1831 rfl rfl, tg 1832 rfl rfl, tg 1833 rfl rfl, ⟨_, _, rfl⟩⟩, rfl, by decide +kernel, Nat.le_of_ble_eq_true rfl⟩ : okM 13 (243, 302, 1, 0)) <|
  allm (⟨⟨tg 1052 rfl rfl, tg 1053 rfl rfl⟩, rfl, by decide +kernel, Nat.le_of_ble_eq_true rfl⟩ : okM 13 (244, 135, 3, 4)) <|
  allm (⟨⟨tg 1835 rfl rfl, tg 1836 rfl rfl, tg 1837 rfl rfl, ⟨_, _, rfl⟩⟩, rfl, by decide +kernel, Nat.le_of_ble_eq_true rfl⟩ : okM 13 (246, 303, 1, 0)) <|
  allm (⟨⟨tg 1063 rfl rfl, tg 1064 rfl rfl⟩, rfl, by decide +kernel, Nat.le_of_ble_eq_true rfl⟩ : okM 13 (247, 137, 3, 4)) <|
  allm (⟨⟨tg 1839 rfl rfl, tg 1840 rfl rfl, tg 1841 rfl rfl, ⟨_, _, rfl⟩⟩, rfl, by decide +kernel, Nat.le_of_ble_eq_true rfl⟩ : okM 13 (249, 304, 1, 0)) <|
  allm (⟨⟨tg 1070 rfl rfl, tg 1071 rfl rfl⟩, rfl, by decide +kernel, Nat.le_of_ble_eq_true rfl⟩ : okM 13 (250, 139, 3, 4)) <|
  allm (⟨⟨tg 1843 rfl rfl, tg 1844 rfl rfl, tg 1845 rfl rfl, ⟨_, _, rfl⟩⟩, rfl, by decide +kernel, Nat.le_of_ble_eq_true rfl⟩ : okM 13 (252, 305, 1, 0)) <|
  allm (⟨⟨tg 1077 rfl rfl, tg 1078 rfl rfl⟩, rfl, by decide +kernel, Nat.le_of_ble_eq_true rfl⟩ : okM 13 (253, 142, 3, 4)) <|
  allm (⟨⟨tg 1847 rfl rfl, tg 1848 rfl rfl, tg 1849 rfl rfl, ⟨_, _, rfl⟩⟩, rfl, by decide +kernel, Nat.le_of_ble_eq_true rfl⟩ : okM 13 (255, 306, 1, 0)) <|
  allm (⟨⟨tg 1089 rfl rfl, tg 1090 rfl rfl⟩, rfl, by decide +kernel, Nat.le_of_ble_eq_true rfl⟩ : okM 13 (256, 145, 3, 4)) <|
  allm (⟨⟨tg 1851 rfl rfl, tg 1852 rfl rfl, tg 1853 rfl rfl, ⟨_, _, rfl⟩⟩, rfl, by decide +kernel, Nat.le_of_ble_eq_true rfl⟩ : okM 13 (258, 308, 1, 0)) <|
  allm (⟨⟨tg 1101 rfl rfl, tg 1102 rfl rfl⟩, rfl, by decide +kernel, Nat.le_of_ble_eq_true rfl⟩ : okM 13 (259, 148, 4, 4)) <|
  allm (⟨⟨tg 1859 rfl rfl, tg 1860 rfl rfl, tg 1861 rfl rfl, ⟨_, _, rfl⟩⟩, rfl, by decide +kernel, Nat.le_of_ble_eq_true rfl⟩ : okM 13 (261, 311, 2, 0)) <|
  allm (⟨⟨tg 1112 rfl rfl, tg 1113 rfl rfl⟩, rfl, by decide +kernel, Nat.le_of_ble_eq_true rfl⟩ : okM 13 (262, 150, 3, 4)) <|
  allm (⟨⟨tg 1871 rfl rfl, tg 1872 rfl rfl, tg 1873 rfl rfl, ⟨_, _, rfl⟩⟩, rfl, by decide +kernel, Nat.le_of_ble_eq_true rfl⟩ : okM 13 (264, 312, 1, 0)) <|
  allm (⟨⟨tg 1119 rfl rfl, tg 1120 rfl rfl⟩, rfl, by decide +kernel, Nat.le_of_ble_eq_true rfl⟩ : okM 13 (265, 153, 5, 4)) <|
  allm (⟨⟨tg 1875 rfl rfl, tg 1876 rfl rfl, tg 1877 rfl rfl, ⟨_, _, rfl⟩⟩, rfl, by decide +kernel, Nat.le_of_ble_eq_true rfl⟩ : okM 13 (267, 314, 3, 0)) <|
  allm (⟨⟨tg 1132 rfl rfl, tg 1133 rfl rfl⟩, rfl, by decide +kernel, Nat.le_of_ble_eq_true rfl⟩ : okM 13 (268, 156, 3, 4)) <|
  allm (⟨⟨tg 1884 rfl rfl, tg 1885 rfl rfl, tg 1886 rfl rfl, ⟨_, _, rfl⟩⟩, rfl, by decide +kernel, Nat.le_of_ble_eq_true rfl⟩ : okM 13 (270, 315, 1, 0)) <|
  allm (⟨⟨tg 1145 rfl rfl, tg 1146 rfl rfl⟩, rfl, by decide +kernel, Nat.le_of_ble_eq_true rfl⟩ : okM 13 (271, 159, 4, 4)) <|
  allm (⟨⟨tg 1888 rfl rfl, tg 1889 rfl rfl, tg 1890 rfl rfl, ⟨_, _, rfl⟩⟩, rfl, by decide +kernel, Nat.le_of_ble_eq_true rfl⟩ : okM 13 (273, 316, 2, 0)) <|
  allm (⟨⟨tg 1156 rfl rfl, tg 1157 rfl rfl⟩, rfl, by decide +kernel, Nat.le_of_ble_eq_true rfl⟩ : okM 13 (274, 161, 3, 4)) <|
  allm (⟨⟨tg 1892 rfl rfl, tg 1893 rfl rfl, tg 1894 rfl rfl, ⟨_, _, rfl⟩⟩, rfl, by decide +kernel, Nat.le_of_ble_eq_true rfl⟩ : okM 13 (276, 321, 1, 0)) <|
  allm (⟨⟨tg 1163 rfl rfl, tg 1164 rfl rfl⟩, rfl, by decide +kernel, Nat.le_of_ble_eq_true rfl⟩ : okM 13 (277, 163, 3, 4)) <|
  allm (⟨⟨tg 1912 rfl rfl, tg 1913 rfl rfl, tg 1914 rfl rfl, ⟨_, _, rfl⟩⟩, rfl, by decide +kernel, Nat.le_of_ble_eq_true rfl⟩ : okM 13 (279, 322, 1, 0)) <|
  allm (⟨⟨tg 600 rfl rfl, tg 601 rfl rfl, tg 602 rfl rfl, ⟨_, _, rfl⟩⟩, rfl, by decide +kernel, Nat.le_of_ble_eq_true rfl⟩ : okM 13 (280, 49, 0, 0)) <|
  allm (⟨⟨tg 1916 rfl rfl, tg 1917 rfl rfl, tg 1918 rfl rfl, ⟨_, _, rfl⟩⟩, rfl, by decide +kernel, Nat.le_of_ble_eq_true rfl⟩ : okM 13 (283, 323, 0, 0)) <|
  allm (⟨⟨tg 633 rfl rfl, tg 634 rfl rfl, tg 635 rfl rfl, ⟨_, _, rfl⟩⟩, rfl, by decide +kernel, Nat.le_of_ble_eq_true rfl⟩ : okM 13 (284, 50, 0, 0)) <|
  allm (⟨⟨tg 1920 rfl rfl, tg 1921 rfl rfl, tg 1922 rfl rfl, ⟨_, _, rfl⟩⟩, rfl, by decide +kernel, Nat.le_of_ble_eq_true rfl⟩ : okM 13 (287, 324, 0, 0)) <|
  allm (⟨⟨tg 639 rfl rfl, tg 640 rfl rfl, tg 641 rfl rfl, ⟨_, _, rfl⟩⟩, rfl, by decide +kernel, Nat.le_of_ble_eq_true rfl⟩ : okM 13 (288, 51, 0, 0)) <|
  okM_13_2
set_option maxRecDepth 100000 in
theorem okM_13_0 : ∀ e ∈ ([(7, 65, 1, 0), (15, 69, 2, 0), (21, 74, 2, 0), (24, 79, 3, 0), (28, 82, 3, 0), (32, 85, 2, 0), (35, 88, 1, 0), (38, 93, 1, 0), (41, 97, 3, 0), (44, 104, 2, 0), (47, 108, 1, 0), (50, 110, 1, 0), (53, 113, 1, 0), (57, 125, 1, 0), (60, 127, 1, 0), (63, 131, 1, 0), (66, 134, 1, 0), (69, 136, 1, 0), (72, 138, 1, 0), (75, 141, 1, 0), (78, 144, 1, 0), (81, 147, 2, 0), (84, 149, 1, 0), (87, 152, 3, 0), (90, 155, 1, 0), (93, 158, 2, 0), (96, 160, 1, 0), (99, 162, 1, 0), (102, 165, 3, 0), (105, 168, 1, 0), (108, 170, 2, 0), (111, 172, 2, 0), (114, 174, 2, 0), (117, 176, 4, 0), (121, 178, 1, 0), (124, 181, 1, 0), (127, 185, 2, 0), (130, 188, 2, 0), (133, 193, 1, 0), (136, 195, 1, 0), (139, 197, 1, 0), (142, 199, 1, 0), (145, 201, 1, 0), (148, 203, 1, 0), (152, 207, 2, 0), (155, 209, 2, 0), (158, 211, 1, 0), (161, 213, 1, 0), (164, 8, 0, 2), (167, 216, 0, 2), (170, 10, 1, 0), (174, 218, 1, 0), (175, 39, 0, 0), (179, 242, 0, 0), (180, 40, 0, 0), (183, 243, 0, 0), (184, 41, 0, 0), (187, 244, 0, 0), (188, 66, 3, 4), (193, 257, 1, 0), (194, 217, 0, 0), (197, 70, 4, 4), (200, 265, 2, 0), (201, 75, 4, 4), (203, 270, 2, 0), (204, 80, 5, 4), (207, 274, 3, 0), (208, 83, 5, 4), (210, 276, 3, 0), (211, 86, 4, 4), (213, 277, 2, 0), (214, 89, 3, 4), (216, 278, 1, 0), (217, 94, 3, 4), (219, 282, 1, 0), (220, 98, 5, 4), (222, 283, 3, 0), (223, 105, 4, 4), (225, 284, 2, 0), (226, 109, 3, 4), (228, 286, 1, 0), (229, 111, 3, 4), (231, 289, 1, 0), (232, 114, 3, 4), (234, 292, 1, 0), (235, 126, 3, 4), (237, 300, 1, 0), (238, 128, 3, 4), (240, 301, 1, 0), (241, 132, 3, 4), (243, 302, 1, 0), (244, 135, 3, 4), (246, 303, 1, 0), (247, 137, 3, 4), (249, 304, 1, 0), (250, 139, 3, 4), (252, 305, 1, 0), (253, 142, 3, 4), (255, 306, 1, 0), (256, 145, 3, 4), (258, 308, 1, 0), (259, 148, 4, 4), (261, 311, 2, 0), (262, 150, 3, 4), (264, 312, 1, 0), (265, 153, 5, 4), (267, 314, 3, 0), (268, 156, 3, 4), (270, 315, 1, 0), (271, 159, 4, 4), (273, 316, 2, 0), (274, 161, 3, 4), (276, 321, 1, 0), (277, 163, 3, 4), (279, 322, 1, 0), (280, 49, 0, 0), (283, 323, 0, 0), (284, 50, 0, 0), (287, 324, 0, 0), (288, 51, 0, 0), (291, 325, 0, 0), (292, 166, 5, 4), (294, 327, 3, 0), (295, 169, 3, 4), (297, 328, 1, 0), (298, 171, 4, 4), (300, 330, 2, 0), (301, 173, 4, 4), (303, 332, 2, 0), (304, 175, 4, 4), (306, 333, 2, 0), (307, 177, 6, 4), (310, 334, 4, 0), (311, 179, 3, 4), (313, 336, 1, 0), (314, 182, 3, 4), (316, 337, 1, 0), (317, 186, 4, 4), (319, 338, 2, 0), (320, 189, 4, 4), (322, 339, 2, 0), (323, 194, 3, 4), (325, 340, 1, 0), (326, 196, 3, 4), (328, 341, 1, 0), (329, 198, 3, 4), (331, 342, 1, 0), (332, 200, 3, 4), (334, 343, 1, 0), (335, 202, 3, 4), (337, 344, 1, 0), (338, 204, 3, 4), (341, 345, 1, 0), (342, 53, 0, 0), (346, 346, 0, 0), (347, 208, 4, 4), (349, 349, 2, 0), (350, 210, 4, 4), (352, 350, 2, 0), (353, 54, 1, 0), (356, 351, 1, 0), (357, 56, 0, 0), (360, 352, 0, 0), (361, 212, 3, 4), (363, 353, 1, 0), (364, 214, 3, 4), (366, 354, 1, 0)] : List (Nat × Nat × Nat × Nat)), okM 13 e :=
  allm (⟨⟨tg 668 rfl rfl, tg 669 rfl rfl, tg 670 rfl rfl, ⟨_, _, rfl⟩⟩, rfl, by decide +kernel, Nat.le_of_ble_eq_true rfl⟩ : okM 13 (7, 65, 1, 0)) <|
  allm (⟨⟨tg 775 rfl rfl, tg 776 rfl rfl, tg 777 rfl rfl, ⟨_, _, rfl⟩⟩, rfl, by decide +kernel, Nat.le_of_ble_eq_true rfl⟩ : okM 13 (15, 69, 2, 0)) <|
  allm (⟨⟨tg 808 rfl rfl, tg 809 rfl rfl, tg 810 rfl rfl, ⟨_, _, rfl⟩⟩, rfl, by decide +kernel, Nat.le_of_ble_eq_true rfl⟩ : okM 13 (21, 74, 2, 0)) <|
  allm (⟨⟨tg 828 rfl rfl, tg 829 rfl rfl, tg 830 rfl rfl, ⟨_, _, rfl⟩⟩, rfl, by decide +kernel, Nat.le_of_ble_eq_true rfl⟩ : okM 13 (24, 79, 3, 0)) <|
  allm (⟨⟨tg 848 rfl rfl, tg 849 rfl rfl, tg 850 rfl rfl, ⟨_, _, rfl⟩⟩, rfl, by decide +kernel, Nat.le_of_ble_eq_true rfl⟩ : okM 13 (28, 82, 3, 0)) <|
  allm (⟨⟨tg 861 rfl rfl, tg 862 rfl rfl, tg 863 rfl rfl, ⟨_, _, rfl⟩⟩, rfl, by decide +kernel, Nat.le_of_ble_eq_true rfl⟩ : okM 13 (32, 85, 2, 0)) <|
  allm (⟨⟨tg 872 rfl rfl, tg 873 rfl rfl, tg 874 rfl rfl, ⟨_, _, rfl⟩⟩, rfl, by decide +kernel, Nat.le_of_ble_eq_true rfl⟩ : okM 13 (35, 88, 1, 0)) <|
  allm (⟨⟨tg 885 rfl rfl, tg 886 rfl rfl, tg 887 rfl rfl, ⟨_, _, rfl⟩⟩, rfl, by decide +kernel, Nat.le_of_ble_eq_true rfl⟩ : okM 13 (38, 93, 1, 0)) <|
  allm (⟨⟨tg 905 rfl rfl, tg 906 rfl rfl, tg 907 rfl rfl, ⟨_, _, rfl⟩⟩, rfl, by decide +kernel, Nat.le_of_ble_eq_true rfl⟩ : okM 13 (41, 97, 3, 0)) <|
  allm (⟨⟨tg 921 rfl rfl, tg 922 rfl rfl, tg 923 rfl rfl, ⟨_, _, rfl⟩⟩, rfl, by decide +kernel, Nat.le_of_ble_eq_true rfl⟩ : okM 13 (44, 104, 2, 0)) <|
  allm (⟨⟨tg 948 rfl rfl, tg 949 rfl rfl, tg 950 rfl rfl, ⟨_, _, rfl⟩⟩, rfl, by decide +kernel, Nat.le_of_ble_eq_true rfl⟩ : okM 13 (47, 108, 1, 0)) <|
  allm (⟨⟨tg 964 rfl rfl, tg 965 rfl rfl, tg 966 rfl rfl, ⟨_, _, rfl⟩⟩, rfl, by decide +kernel, Nat.le_of_ble_eq_true rfl⟩ : okM 13 (50, 110, 1, 0)) <|
  allm (⟨⟨tg 972 rfl rfl, tg 973 rfl rfl, tg 974 rfl rfl, ⟨_, _, rfl⟩⟩, rfl, by decide +kernel, Nat.le_of_ble_eq_true rfl⟩ : okM 13 (53, 113, 1, 0)) <|
  allm (⟨⟨tg 983 rfl rfl, tg 984 rfl rfl, tg 985 rfl rfl, ⟨_, _, rfl⟩⟩, rfl, by decide +kernel, Nat.le_of_ble_eq_true rfl⟩ : okM 13 (57, 125, 1, 0)) <|
  allm (⟨⟨tg 1033 rfl rfl, tg 1034 rfl rfl, tg 1035 rfl rfl, ⟨_, _, rfl⟩⟩, rfl, by decide +kernel, Nat.le_of_ble_eq_true rfl⟩ : okM 13 (60, 127, 1, 0)) <|
  allm (⟨⟨tg 1040 rfl rfl, tg 1041 rfl rfl, tg 1042 rfl rfl, ⟨_, _, rfl⟩⟩, rfl, by decide +kernel, Nat.le_of_ble_eq_true rfl⟩ : okM 13 (63, 131, 1, 0)) <|
  allm (⟨⟨tg 1055 rfl rfl, tg 1056 rfl rfl, tg 1057 rfl rfl, ⟨_, _, rfl⟩⟩, rfl, by decide +kernel, Nat.le_of_ble_eq_true rfl⟩ : okM 13 (66, 134, 1, 0)) <|
  allm (⟨⟨tg 1066 rfl rfl, tg 1067 rfl rfl, tg 1068 rfl rfl, ⟨_, _, rfl⟩⟩, rfl, by decide +kernel, Nat.le_of_ble_eq_true rfl⟩ : okM 13 (69, 136, 1, 0)) <|
  allm (⟨⟨tg 1073 rfl rfl, tg 1074 rfl rfl, tg 1075 rfl rfl, ⟨_, _, rfl⟩⟩, rfl, by decide +kernel, Nat.le_of_ble_eq_true rfl⟩ : okM 13 (72, 138, 1, 0)) <|
  allm (⟨⟨tg 1080 rfl rfl, tg 1081 rfl rfl, tg 1082 rfl rfl, ⟨_, _, rfl⟩⟩, rfl, by decide +kernel, Nat.le_of_ble_eq_true rfl⟩ : okM 13 (75, 141, 1, 0)) <|
  allm (⟨⟨tg 1092 rfl rfl, tg 1093 rfl rfl, tg 1094 rfl rfl, ⟨_, _, rfl⟩⟩, rfl, by decide +kernel, Nat.le_of_ble_eq_true rfl⟩ : okM 13 (78, 144, 1, 0)) <|
  allm (⟨⟨tg 1104 rfl rfl, tg 1105 rfl rfl, tg 1106 rfl rfl, ⟨_, _, rfl⟩⟩, rfl, by decide +kernel, Nat.le_of_ble_eq_true rfl⟩ : okM 13 (81, 147, 2, 0)) <|
  allm (⟨⟨tg 1115 rfl rfl, tg 1116 rfl rfl, tg 1117 rfl rfl, ⟨_, _, rfl⟩⟩, rfl, by decide +kernel, Nat.le_of_ble_eq_true rfl⟩ : okM 13 (84, 149, 1, 0)) <|
  allm (⟨⟨tg 1122 rfl rfl, tg 1123 rfl rfl, tg 1124 rfl rfl, ⟨_, _, rfl⟩⟩, rfl, by decide +kernel, Nat.le_of_ble_eq_true rfl⟩ : okM 13 (87, 152, 3, 0)) <|
  allm (⟨⟨tg 1135 rfl rfl, tg 1136 rfl rfl, tg 1137 rfl rfl, ⟨_, _, rfl⟩⟩, rfl, by decide +kernel, Nat.le_of_ble_eq_true rfl⟩ : okM 13 (90, 155, 1, 0)) <|
  allm (⟨⟨tg 1148 rfl rfl, tg 1149 rfl rfl, tg 1150 rfl rfl, ⟨_, _, rfl⟩⟩, rfl, by decide +kernel, Nat.le_of_ble_eq_true rfl⟩ : okM 13 (93, 158, 2, 0)) <|
  allm (⟨⟨tg 1159 rfl rfl, tg 1160 rfl rfl, tg 1161 rfl rfl, ⟨_, _, rfl⟩⟩, rfl, by decide +kernel, Nat.le_of_ble_eq_true rfl⟩ : okM 13 (96, 160, 1, 0)) <|
  allm (⟨⟨tg 1166 rfl rfl, tg 1167 rfl rfl, tg 1168 rfl rfl, ⟨_, _, rfl⟩⟩, rfl, by decide +kernel, Nat.le_of_ble_eq_true rfl⟩ : okM 13 (99, 162, 1, 0)) <|
  allm (⟨⟨tg 1173 rfl rfl, tg 1174 rfl rfl, tg 1175 rfl rfl, ⟨_, _, rfl⟩⟩, rfl, by decide +kernel, Nat.le_of_ble_eq_true rfl⟩ : okM 13 (102, 165, 3, 0)) <|
  allm (⟨⟨tg 1185 rfl rfl, tg 1186 rfl rfl, tg 1187 rfl rfl, ⟨_, _, rfl⟩⟩, rfl, by decide +kernel, Nat.le_of_ble_eq_true rfl⟩ : okM 13 (105, 168, 1, 0)) <|
  allm (⟨⟨tg 1196 rfl rfl, tg 1197 rfl rfl, tg 1198 rfl rfl, ⟨_, _, rfl⟩⟩, rfl, by decide +kernel, Nat.le_of_ble_eq_true rfl⟩ : okM 13 (108, 170, 2, 0)) <|
  allm (⟨⟨tg 1203 rfl rfl, tg 1204 rfl rfl, tg 1205 rfl rfl, ⟨_, _, rfl⟩⟩, rfl, by decide +kernel, Nat.le_of_ble_eq_true rfl⟩ : okM 13 (111, 172, 2, 0)) <|
  allm (⟨⟨tg 1210 rfl rfl, tg 1211 rfl rfl, tg 1212 rfl rfl, ⟨_, _, rfl⟩⟩, rfl, by decide +kernel, Nat.le_of_ble_eq_true rfl⟩ : okM 13 (114, 174, 2, 0)) <|
  allm (⟨⟨tg 1217 rfl rfl, tg 1218 rfl rfl, tg 1219 rfl rfl, ⟨_, _, rfl⟩⟩, rfl, by decide +kernel, Nat.le_of_ble_eq_true rfl⟩ : okM 13 (117, 176, 4, 0)) <|
  allm (⟨⟨tg 1225 rfl rfl, tg 1226 rfl rfl, tg 1227 rfl rfl, ⟨_, _, rfl⟩⟩, rfl, by decide +kernel, Nat.le_of_ble_eq_true rfl⟩ : okM 13 (121, 178, 1, 0)) <|
  allm (⟨⟨tg 1233 rfl rfl, tg 1234 rfl rfl, tg 1235 rfl rfl, ⟨_, _, rfl⟩⟩, rfl, by decide +kernel, Nat.le_of_ble_eq_true rfl⟩ : okM 13 (124, 181, 1, 0)) <|
  allm (⟨⟨tg 1244 rfl rfl, tg 1245 rfl rfl, tg 1246 rfl rfl, ⟨_, _, rfl⟩⟩, rfl, by decide +kernel, Nat.le_of_ble_eq_true rfl⟩ : okM 13 (127, 185, 2, 0)) <|
  allm (⟨⟨tg 1259 rfl rfl, tg 1260 rfl rfl, tg 1261 rfl rfl, ⟨_, _, rfl⟩⟩, rfl, by decide +kernel, Nat.le_of_ble_eq_true rfl⟩ : okM 13 (130, 188, 2, 0)) <|
  allm (⟨⟨tg 1271 rfl rfl, tg 1272 rfl rfl, tg 1273 rfl rfl, ⟨_, _, rfl⟩⟩, rfl, by decide +kernel, Nat.le_of_ble_eq_true rfl⟩ : okM 13 (133, 193, 1, 0)) <|
  allm (⟨⟨tg 1289 rfl rfl, tg 1290 rfl rfl, tg 1291 rfl rfl, ⟨_, _, rfl⟩⟩, rfl, by decide +kernel, Nat.le_of_ble_eq_true rfl⟩ : okM 13 (136, 195, 1, 0)) <|
  allm (⟨⟨tg 1296 rfl rfl, tg 1297 rfl rfl, tg 1298 rfl rfl, ⟨_, _, rfl⟩⟩, rfl, by decide +kernel, Nat.le_of_ble_eq_true rfl⟩ : okM 13 (139, 197, 1, 0)) <|
  allm (⟨⟨tg 1303 rfl rfl, tg 1304 rfl rfl, tg 1305 rfl rfl, ⟨_, _, rfl⟩⟩, rfl, by decide +kernel, Nat.le_of_ble_eq_true rfl⟩ : okM 13 (142, 199, 1, 0)) <|
  allm (⟨⟨tg 1310 rfl rfl, tg 1311 rfl rfl, tg 1312 rfl rfl, ⟨_, _, rfl⟩⟩, rfl, by decide +kernel, Nat.le_of_ble_eq_true rfl⟩ : okM 13 (145, 201, 1, 0)) <|
  allm (⟨⟨tg 1318 rfl rfl, tg 1319 rfl rfl, tg 1320 rfl rfl, ⟨_, _, rfl⟩⟩, rfl, by decide +kernel, Nat.le_of_ble_eq_true rfl⟩ : okM 13 (148, 203, 1, 0)) <|
  allm (⟨⟨tg 1325 rfl rfl, tg 1326 rfl rfl, tg 1327 rfl rfl, ⟨_, _, rfl⟩⟩, rfl, by decide +kernel, Nat.le_of_ble_eq_true rfl⟩ : okM 13 (152, 207, 2, 0)) <|
  allm (⟨⟨tg 1344 rfl rfl, tg 1345 rfl rfl, tg 1346 rfl rfl, ⟨_, _, rfl⟩⟩, rfl, by decide +kernel, Nat.le_of_ble_eq_true rfl⟩ : okM 13 (155, 209, 2, 0)) <|
  allm (⟨⟨tg 1351 rfl rfl, tg 1352 rfl rfl, tg 1353 rfl rfl, ⟨_, _, rfl⟩⟩, rfl, by decide +kernel, Nat.le_of_ble_eq_true rfl⟩ : okM 13 (158, 211, 1, 0)) <|
  allm (⟨⟨tg 1358 rfl rfl, tg 1359 rfl rfl, tg 1360 rfl rfl, ⟨_, _, rfl⟩⟩, rfl, by decide +kernel, Nat.le_of_ble_eq_true rfl⟩ : okM 13 (161, 213, 1, 0)) <|
  allm (⟨⟨tg 124 rfl rfl, tg 125 rfl rfl, rfl, rfl⟩, rfl, by decide +kernel, Nat.le_of_ble_eq_true rfl⟩ : okM 13 (164, 8, 0, 2)) <|
  allm (⟨⟨tg 1364 rfl rfl, tg 1365 rfl rfl, rfl, rfl⟩, rfl, by decide +kernel, Nat.le_of_ble_eq_true rfl⟩ : okM 13 (167, 216, 0, 2)) <|
  allm (⟨⟨tg 393 rfl rfl, tg 394 rfl rfl, tg 395 rfl rfl, ⟨_, _, rfl⟩⟩, rfl, by decide +kernel, Nat.le_of_ble_eq_true rfl⟩ : okM 13 (170, 10, 1, 0)) <|
  allm (⟨⟨tg 1470 rfl rfl, tg 1471 rfl rfl, tg 1472 rfl rfl, ⟨_, _, rfl⟩⟩, rfl, by decide +kernel, Nat.le_of_ble_eq_true rfl⟩ : okM 13 (174, 218, 1, 0)) <|
  allm (⟨⟨tg 402 rfl rfl, tg 403 rfl rfl, tg 404 rfl rfl, ⟨_, _, rfl⟩⟩, rfl, by decide +kernel, Nat.le_of_ble_eq_true rfl⟩ : okM 13 (175, 39, 0, 0)) <|
  allm (⟨⟨tg 1475 rfl rfl, tg 1476 rfl rfl, tg 1477 rfl rfl, ⟨_, _, rfl⟩⟩, rfl, by decide +kernel, Nat.le_of_ble_eq_true rfl⟩ : okM 13 (179, 242, 0, 0)) <|
  allm (⟨⟨tg 592 rfl rfl, tg 593 rfl rfl, tg 594 rfl rfl, ⟨_, _, rfl⟩⟩, rfl, by decide +kernel, Nat.le_of_ble_eq_true rfl⟩ : okM 13 (180, 40, 0, 0)) <|
  allm (⟨⟨tg 1591 rfl rfl, tg 1592 rfl rfl, tg 1593 rfl rfl, ⟨_, _, rfl⟩⟩, rfl, by decide +kernel, Nat.le_of_ble_eq_true rfl⟩ : okM 13 (183, 243, 0, 0)) <|
  allm (⟨⟨tg 596 rfl rfl, tg 597 rfl rfl, tg 598 rfl rfl, ⟨_, _, rfl⟩⟩, rfl, by decide +kernel, Nat.le_of_ble_eq_true rfl⟩ : okM 13 (184, 41, 0, 0)) <|
  allm (⟨⟨tg 1595 rfl rfl, tg 1596 rfl rfl, tg 1597 rfl rfl, ⟨_, _, rfl⟩⟩, rfl, by decide +kernel, Nat.le_of_ble_eq_true rfl⟩ : okM 13 (187, 244, 0, 0)) <|
  allm (⟨⟨tg 664 rfl rfl, tg 665 rfl rfl⟩, rfl, by decide +kernel, Nat.le_of_ble_eq_true rfl⟩ : okM 13 (188, 66, 3, 4)) <|
  allm (⟨⟨tg 1599 rfl rfl, tg 1600 rfl rfl, tg 1601 rfl rfl, ⟨_, _, rfl⟩⟩, rfl, by decide +kernel, Nat.le_of_ble_eq_true rfl⟩ : okM 13 (193, 257, 1, 0)) <|
  okM_13_1
theorem okM_13 : ∀ e ∈ kM 13, okM 13 e := okM_13_0
theorem okM_all : ∀ c, c < 14 → ∀ e ∈ kM c, okM c e := lt_s (lt_s (lt_s (lt_s (lt_s (lt_s (lt_s (lt_s (lt_s (lt_s (lt_s (lt_s (lt_s (lt_s (lt_0) okM_0) okM_1) okM_2) okM_3) okM_4) okM_5) okM_6) okM_7) okM_8) okM_9) okM_10) okM_11) okM_12) okM_13
/-- the word of a method's code -/
def mWd (M : Nat) : Cond := match mH M with
  | [] => .code (mY M) (mB M) (mN M) (mR M)
  | _ => .codeWith (mY M) (mB M) (mN M) (mR M) ((mH M).map (fun h => (h.1, h.2.1, h.2.2.1, h.2.2.2.1)))
def okY (M : Nat) : Prop := mWd M ∈ TG ∧ Cond.initialized (mY M).cls ∈ TG ∧ (mY M).cls = cN (mC M) ∧ plainName (mY M).cls = true ∧ ((mY M).cls ≠ "java/lang/invoke/MethodHandle" ∧ (mY M).cls ≠ "java/lang/invoke/VarHandle")
theorem pn_8 : plainName "PinBarrel" = true ∧ ("PinBarrel" ≠ "java/lang/invoke/MethodHandle" ∧ "PinBarrel" ≠ "java/lang/invoke/VarHandle") := by decide +kernel
theorem pn_0 : plainName "PinBarrel$Box" = true ∧ ("PinBarrel$Box" ≠ "java/lang/invoke/MethodHandle" ∧ "PinBarrel$Box" ≠ "java/lang/invoke/VarHandle") := by decide +kernel
theorem pn_1 : plainName "PinBarrel$History" = true ∧ ("PinBarrel$History" ≠ "java/lang/invoke/MethodHandle" ∧ "PinBarrel$History" ≠ "java/lang/invoke/VarHandle") := by decide +kernel
theorem pn_2 : plainName "PinBarrel$Notes" = true ∧ ("PinBarrel$Notes" ≠ "java/lang/invoke/MethodHandle" ∧ "PinBarrel$Notes" ≠ "java/lang/invoke/VarHandle") := by decide +kernel
theorem pn_3 : plainName "PinBarrel$Play" = true ∧ ("PinBarrel$Play" ≠ "java/lang/invoke/MethodHandle" ∧ "PinBarrel$Play" ≠ "java/lang/invoke/VarHandle") := by decide +kernel
theorem pn_4 : plainName "PinBarrel$Reader" = true ∧ ("PinBarrel$Reader" ≠ "java/lang/invoke/MethodHandle" ∧ "PinBarrel$Reader" ≠ "java/lang/invoke/VarHandle") := by decide +kernel
theorem pn_5 : plainName "PinBarrel$Ring" = true ∧ ("PinBarrel$Ring" ≠ "java/lang/invoke/MethodHandle" ∧ "PinBarrel$Ring" ≠ "java/lang/invoke/VarHandle") := by decide +kernel
theorem pn_6 : plainName "PinBarrel$Search" = true ∧ ("PinBarrel$Search" ≠ "java/lang/invoke/MethodHandle" ∧ "PinBarrel$Search" ≠ "java/lang/invoke/VarHandle") := by decide +kernel
theorem pn_7 : plainName "PinBarrel$Writer" = true ∧ ("PinBarrel$Writer" ≠ "java/lang/invoke/MethodHandle" ∧ "PinBarrel$Writer" ≠ "java/lang/invoke/VarHandle") := by decide +kernel
theorem pn_13 : plainName "PinBarrelLaw" = true ∧ ("PinBarrelLaw" ≠ "java/lang/invoke/MethodHandle" ∧ "PinBarrelLaw" ≠ "java/lang/invoke/VarHandle") := by decide +kernel
theorem pn_9 : plainName "PinBarrelModel" = true ∧ ("PinBarrelModel" ≠ "java/lang/invoke/MethodHandle" ∧ "PinBarrelModel" ≠ "java/lang/invoke/VarHandle") := by decide +kernel
theorem pn_10 : plainName "java/lang/Integer" = true ∧ ("java/lang/Integer" ≠ "java/lang/invoke/MethodHandle" ∧ "java/lang/Integer" ≠ "java/lang/invoke/VarHandle") := by decide +kernel
theorem pn_11 : plainName "java/lang/Long" = true ∧ ("java/lang/Long" ≠ "java/lang/invoke/MethodHandle" ∧ "java/lang/Long" ≠ "java/lang/invoke/VarHandle") := by decide +kernel
theorem pn_12 : plainName "java/util/Arrays" = true ∧ ("java/util/Arrays" ≠ "java/lang/invoke/MethodHandle" ∧ "java/util/Arrays" ≠ "java/lang/invoke/VarHandle") := by decide +kernel
set_option maxRecDepth 100000 in
theorem okY_0 : okY 0 := ⟨tg 140 rfl rfl, tg 100 rfl rfl, rfl, pn_2⟩
set_option maxRecDepth 100000 in
theorem okY_1 : okY 1 := ⟨tg 178 rfl rfl, tg 102 rfl rfl, rfl, pn_12⟩
set_option maxRecDepth 100000 in
theorem okY_2 : okY 2 := ⟨tg 174 rfl rfl, tg 101 rfl rfl, rfl, pn_3⟩
set_option maxRecDepth 100000 in
theorem okY_3 : okY 3 := ⟨tg 134 rfl rfl, tg 99 rfl rfl, rfl, pn_0⟩
set_option maxRecDepth 100000 in
theorem okY_4 : okY 4 := ⟨tg 273 rfl rfl, tg 103 rfl rfl, rfl, pn_1⟩
set_option maxRecDepth 100000 in
theorem okY_5 : okY 5 := ⟨tg 293 rfl rfl, tg 104 rfl rfl, rfl, pn_4⟩
set_option maxRecDepth 100000 in
theorem okY_6 : okY 6 := ⟨tg 324 rfl rfl, tg 105 rfl rfl, rfl, pn_7⟩
set_option maxRecDepth 100000 in
theorem okY_7 : okY 7 := ⟨tg 339 rfl rfl, tg 106 rfl rfl, rfl, pn_6⟩
set_option maxRecDepth 100000 in
theorem okY_8 : okY 8 := ⟨tg 126 rfl rfl, tg 98 rfl rfl, rfl, pn_8⟩
set_option maxRecDepth 100000 in
theorem okY_9 : okY 9 := ⟨tg 400 rfl rfl, tg 104 rfl rfl, rfl, pn_4⟩
set_option maxRecDepth 100000 in
theorem okY_10 : okY 10 := ⟨tg 396 rfl rfl, tg 98 rfl rfl, rfl, pn_8⟩
set_option maxRecDepth 100000 in
theorem okY_11 : okY 11 := ⟨tg 421 rfl rfl, tg 104 rfl rfl, rfl, pn_4⟩
set_option maxRecDepth 100000 in
theorem okY_12 : okY 12 := ⟨tg 417 rfl rfl, tg 104 rfl rfl, rfl, pn_4⟩
set_option maxRecDepth 100000 in
theorem okY_13 : okY 13 := ⟨tg 426 rfl rfl, tg 104 rfl rfl, rfl, pn_4⟩
set_option maxRecDepth 100000 in
theorem okY_14 : okY 14 := ⟨tg 478 rfl rfl, tg 104 rfl rfl, rfl, pn_4⟩
set_option maxRecDepth 100000 in
theorem okY_15 : okY 15 := ⟨tg 482 rfl rfl, tg 104 rfl rfl, rfl, pn_4⟩
set_option maxRecDepth 100000 in
theorem okY_16 : okY 16 := ⟨tg 492 rfl rfl, tg 102 rfl rfl, rfl, pn_12⟩
set_option maxRecDepth 100000 in
theorem okY_17 : okY 17 := ⟨tg 500 rfl rfl, tg 101 rfl rfl, rfl, pn_3⟩
set_option maxRecDepth 100000 in
theorem okY_18 : okY 18 := ⟨tg 496 rfl rfl, tg 101 rfl rfl, rfl, pn_3⟩
set_option maxRecDepth 100000 in
theorem okY_19 : okY 19 := ⟨tg 489 rfl rfl, tg 99 rfl rfl, rfl, pn_0⟩
set_option maxRecDepth 100000 in
theorem okY_20 : okY 20 := ⟨tg 413 rfl rfl, tg 104 rfl rfl, rfl, pn_4⟩
set_option maxRecDepth 100000 in
theorem okY_21 : okY 21 := ⟨tg 509 rfl rfl, tg 104 rfl rfl, rfl, pn_4⟩
set_option maxRecDepth 100000 in
theorem okY_22 : okY 22 := ⟨tg 521 rfl rfl, tg 105 rfl rfl, rfl, pn_7⟩
set_option maxRecDepth 100000 in
theorem okY_23 : okY 23 := ⟨tg 518 rfl rfl, tg 104 rfl rfl, rfl, pn_4⟩
set_option maxRecDepth 100000 in
theorem okY_24 : okY 24 := ⟨tg 537 rfl rfl, tg 99 rfl rfl, rfl, pn_0⟩
set_option maxRecDepth 100000 in
theorem okY_25 : okY 25 := ⟨tg 514 rfl rfl, tg 104 rfl rfl, rfl, pn_4⟩
set_option maxRecDepth 100000 in
theorem okY_26 : okY 26 := ⟨tg 547 rfl rfl, tg 100 rfl rfl, rfl, pn_2⟩
set_option maxRecDepth 100000 in
theorem okY_27 : okY 27 := ⟨tg 543 rfl rfl, tg 104 rfl rfl, rfl, pn_4⟩
set_option maxRecDepth 100000 in
theorem okY_28 : okY 28 := ⟨tg 560 rfl rfl, tg 99 rfl rfl, rfl, pn_0⟩
set_option maxRecDepth 100000 in
theorem okY_29 : okY 29 := ⟨tg 564 rfl rfl, tg 99 rfl rfl, rfl, pn_0⟩
set_option maxRecDepth 100000 in
theorem okY_30 : okY 30 := ⟨tg 569 rfl rfl, tg 99 rfl rfl, rfl, pn_0⟩
set_option maxRecDepth 100000 in
theorem okY_31 : okY 31 := ⟨tg 556 rfl rfl, tg 99 rfl rfl, rfl, pn_0⟩
set_option maxRecDepth 100000 in
theorem okY_32 : okY 32 := ⟨tg 552 rfl rfl, tg 104 rfl rfl, rfl, pn_4⟩
set_option maxRecDepth 100000 in
theorem okY_33 : okY 33 := ⟨tg 504 rfl rfl, tg 104 rfl rfl, rfl, pn_4⟩
set_option maxRecDepth 100000 in
theorem okY_34 : okY 34 := ⟨tg 409 rfl rfl, tg 104 rfl rfl, rfl, pn_4⟩
set_option maxRecDepth 100000 in
theorem okY_35 : okY 35 := ⟨tg 580 rfl rfl, tg 100 rfl rfl, rfl, pn_2⟩
set_option maxRecDepth 100000 in
theorem okY_36 : okY 36 := ⟨tg 585 rfl rfl, tg 101 rfl rfl, rfl, pn_3⟩
set_option maxRecDepth 100000 in
theorem okY_37 : okY 37 := ⟨tg 573 rfl rfl, tg 99 rfl rfl, rfl, pn_0⟩
set_option maxRecDepth 100000 in
theorem okY_38 : okY 38 := ⟨tg 590 rfl rfl, tg 103 rfl rfl, rfl, pn_1⟩
set_option maxRecDepth 100000 in
theorem okY_39 : okY 39 := ⟨tg 405 rfl rfl, tg 98 rfl rfl, rfl, pn_8⟩
set_option maxRecDepth 100000 in
theorem okY_40 : okY 40 := ⟨tg 595 rfl rfl, tg 98 rfl rfl, rfl, pn_8⟩
set_option maxRecDepth 100000 in
theorem okY_41 : okY 41 := ⟨tg 599 rfl rfl, tg 98 rfl rfl, rfl, pn_8⟩
set_option maxRecDepth 100000 in
theorem okY_42 : okY 42 := ⟨tg 614 rfl rfl, tg 115 rfl rfl, rfl, pn_5⟩
set_option maxRecDepth 100000 in
theorem okY_43 : okY 43 := ⟨tg 611 rfl rfl, tg 99 rfl rfl, rfl, pn_0⟩
set_option maxRecDepth 100000 in
theorem okY_44 : okY 44 := ⟨tg 618 rfl rfl, tg 99 rfl rfl, rfl, pn_0⟩
set_option maxRecDepth 100000 in
theorem okY_45 : okY 45 := ⟨tg 626 rfl rfl, tg 101 rfl rfl, rfl, pn_3⟩
set_option maxRecDepth 100000 in
theorem okY_46 : okY 46 := ⟨tg 622 rfl rfl, tg 101 rfl rfl, rfl, pn_3⟩
set_option maxRecDepth 100000 in
theorem okY_47 : okY 47 := ⟨tg 632 rfl rfl, tg 115 rfl rfl, rfl, pn_5⟩
set_option maxRecDepth 100000 in
theorem okY_48 : okY 48 := ⟨tg 607 rfl rfl, tg 99 rfl rfl, rfl, pn_0⟩
set_option maxRecDepth 100000 in
theorem okY_49 : okY 49 := ⟨tg 603 rfl rfl, tg 98 rfl rfl, rfl, pn_8⟩
set_option maxRecDepth 100000 in
theorem okY_50 : okY 50 := ⟨tg 636 rfl rfl, tg 98 rfl rfl, rfl, pn_8⟩
set_option maxRecDepth 100000 in
theorem okY_51 : okY 51 := ⟨tg 642 rfl rfl, tg 98 rfl rfl, rfl, pn_8⟩
set_option maxRecDepth 100000 in
theorem okY_52 : okY 52 := ⟨tg 650 rfl rfl, tg 101 rfl rfl, rfl, pn_3⟩
set_option maxRecDepth 100000 in
theorem okY_53 : okY 53 := ⟨tg 646 rfl rfl, tg 98 rfl rfl, rfl, pn_8⟩
set_option maxRecDepth 100000 in
theorem okY_54 : okY 54 := ⟨tg 654 rfl rfl, tg 98 rfl rfl, rfl, pn_8⟩
set_option maxRecDepth 100000 in
theorem okY_55 : okY 55 := ⟨tg 662 rfl rfl, tg 103 rfl rfl, rfl, pn_1⟩
set_option maxRecDepth 100000 in
theorem okY_56 : okY 56 := ⟨tg 658 rfl rfl, tg 98 rfl rfl, rfl, pn_8⟩
set_option maxRecDepth 100000 in
theorem okY_57 : okY 57 := ⟨tg 682 rfl rfl, tg 114 rfl rfl, rfl, pn_11⟩
set_option maxRecDepth 100000 in
theorem okY_58 : okY 58 := ⟨tg 679 rfl rfl, tg 99 rfl rfl, rfl, pn_0⟩
set_option maxRecDepth 100000 in
theorem okY_59 : okY 59 := ⟨tg 675 rfl rfl, tg 99 rfl rfl, rfl, pn_0⟩
set_option maxRecDepth 100000 in
theorem okY_60 : okY 60 := ⟨tg 702 rfl rfl, tg 115 rfl rfl, rfl, pn_5⟩
set_option maxRecDepth 100000 in
theorem okY_61 : okY 61 := ⟨tg 699 rfl rfl, tg 115 rfl rfl, rfl, pn_5⟩
set_option maxRecDepth 100000 in
theorem okY_62 : okY 62 := ⟨tg 696 rfl rfl, tg 115 rfl rfl, rfl, pn_5⟩
set_option maxRecDepth 100000 in
theorem okY_63 : okY 63 := ⟨tg 693 rfl rfl, tg 99 rfl rfl, rfl, pn_0⟩
set_option maxRecDepth 100000 in
theorem okY_64 : okY 64 := ⟨tg 689 rfl rfl, tg 99 rfl rfl, rfl, pn_0⟩
set_option maxRecDepth 100000 in
theorem okY_65 : okY 65 := ⟨tg 671 rfl rfl, tg 98 rfl rfl, rfl, pn_8⟩
set_option maxRecDepth 100000 in
theorem okY_66 : okY 66 := ⟨tg 666 rfl rfl, tg 97 rfl rfl, rfl, pn_13⟩
set_option maxRecDepth 100000 in
theorem okY_67 : okY 67 := ⟨tg 782 rfl rfl, tg 98 rfl rfl, rfl, pn_8⟩
set_option maxRecDepth 100000 in
theorem okY_68 : okY 68 := ⟨tg 803 rfl rfl, tg 99 rfl rfl, rfl, pn_0⟩
set_option maxRecDepth 100000 in
theorem okY_69 : okY 69 := ⟨tg 778 rfl rfl, tg 98 rfl rfl, rfl, pn_8⟩
set_option maxRecDepth 100000 in
theorem okY_70 : okY 70 := ⟨tg 773 rfl rfl, tg 97 rfl rfl, rfl, pn_13⟩
set_option maxRecDepth 100000 in
theorem okY_71 : okY 71 := ⟨tg 815 rfl rfl, tg 98 rfl rfl, rfl, pn_8⟩
set_option maxRecDepth 100000 in
theorem okY_72 : okY 72 := ⟨tg 824 rfl rfl, tg 100 rfl rfl, rfl, pn_2⟩
set_option maxRecDepth 100000 in
theorem okY_73 : okY 73 := ⟨tg 820 rfl rfl, tg 99 rfl rfl, rfl, pn_0⟩
set_option maxRecDepth 100000 in
theorem okY_74 : okY 74 := ⟨tg 811 rfl rfl, tg 98 rfl rfl, rfl, pn_8⟩
set_option maxRecDepth 100000 in
theorem okY_75 : okY 75 := ⟨tg 807 rfl rfl, tg 97 rfl rfl, rfl, pn_13⟩
set_option maxRecDepth 100000 in
theorem okY_76 : okY 76 := ⟨tg 839 rfl rfl, tg 98 rfl rfl, rfl, pn_8⟩
set_option maxRecDepth 100000 in
theorem okY_77 : okY 77 := ⟨tg 835 rfl rfl, tg 98 rfl rfl, rfl, pn_8⟩
set_option maxRecDepth 100000 in
theorem okY_78 : okY 78 := ⟨tg 844 rfl rfl, tg 98 rfl rfl, rfl, pn_8⟩
set_option maxRecDepth 100000 in
theorem okY_79 : okY 79 := ⟨tg 831 rfl rfl, tg 98 rfl rfl, rfl, pn_8⟩
set_option maxRecDepth 100000 in
theorem okY_80 : okY 80 := ⟨tg 827 rfl rfl, tg 97 rfl rfl, rfl, pn_13⟩
set_option maxRecDepth 100000 in
theorem okY_81 : okY 81 := ⟨tg 856 rfl rfl, tg 115 rfl rfl, rfl, pn_5⟩
set_option maxRecDepth 100000 in
theorem okY_82 : okY 82 := ⟨tg 851 rfl rfl, tg 98 rfl rfl, rfl, pn_8⟩
set_option maxRecDepth 100000 in
theorem okY_83 : okY 83 := ⟨tg 847 rfl rfl, tg 97 rfl rfl, rfl, pn_13⟩
set_option maxRecDepth 100000 in
theorem okY_84 : okY 84 := ⟨tg 868 rfl rfl, tg 99 rfl rfl, rfl, pn_0⟩
set_option maxRecDepth 100000 in
theorem okY_85 : okY 85 := ⟨tg 864 rfl rfl, tg 98 rfl rfl, rfl, pn_8⟩
set_option maxRecDepth 100000 in
theorem okY_86 : okY 86 := ⟨tg 860 rfl rfl, tg 97 rfl rfl, rfl, pn_13⟩
set_option maxRecDepth 100000 in
theorem okY_87 : okY 87 := ⟨tg 878 rfl rfl, tg 121 rfl rfl, rfl, pn_10⟩
set_option maxRecDepth 100000 in
theorem okY_88 : okY 88 := ⟨tg 875 rfl rfl, tg 98 rfl rfl, rfl, pn_8⟩
set_option maxRecDepth 100000 in
theorem okY_89 : okY 89 := ⟨tg 871 rfl rfl, tg 97 rfl rfl, rfl, pn_13⟩
set_option maxRecDepth 100000 in
theorem okY_90 : okY 90 := ⟨tg 899 rfl rfl, tg 115 rfl rfl, rfl, pn_5⟩
set_option maxRecDepth 100000 in
theorem okY_91 : okY 91 := ⟨tg 896 rfl rfl, tg 99 rfl rfl, rfl, pn_0⟩
set_option maxRecDepth 100000 in
theorem okY_92 : okY 92 := ⟨tg 892 rfl rfl, tg 99 rfl rfl, rfl, pn_0⟩
set_option maxRecDepth 100000 in
theorem okY_93 : okY 93 := ⟨tg 888 rfl rfl, tg 98 rfl rfl, rfl, pn_8⟩
set_option maxRecDepth 100000 in
theorem okY_94 : okY 94 := ⟨tg 884 rfl rfl, tg 97 rfl rfl, rfl, pn_13⟩
set_option maxRecDepth 100000 in
theorem okY_95 : okY 95 := ⟨tg 912 rfl rfl, tg 99 rfl rfl, rfl, pn_0⟩
set_option maxRecDepth 100000 in
theorem okY_96 : okY 96 := ⟨tg 916 rfl rfl, tg 99 rfl rfl, rfl, pn_0⟩
set_option maxRecDepth 100000 in
theorem okY_97 : okY 97 := ⟨tg 908 rfl rfl, tg 98 rfl rfl, rfl, pn_8⟩
set_option maxRecDepth 100000 in
theorem okY_98 : okY 98 := ⟨tg 904 rfl rfl, tg 97 rfl rfl, rfl, pn_13⟩
set_option maxRecDepth 100000 in
theorem okY_99 : okY 99 := ⟨tg 935 rfl rfl, tg 115 rfl rfl, rfl, pn_5⟩
set_option maxRecDepth 100000 in
theorem okY_100 : okY 100 := ⟨tg 932 rfl rfl, tg 99 rfl rfl, rfl, pn_0⟩
set_option maxRecDepth 100000 in
theorem okY_101 : okY 101 := ⟨tg 928 rfl rfl, tg 99 rfl rfl, rfl, pn_0⟩
set_option maxRecDepth 100000 in
theorem okY_102 : okY 102 := ⟨tg 940 rfl rfl, tg 99 rfl rfl, rfl, pn_0⟩
set_option maxRecDepth 100000 in
theorem okY_103 : okY 103 := ⟨tg 944 rfl rfl, tg 99 rfl rfl, rfl, pn_0⟩
set_option maxRecDepth 100000 in
theorem okY_104 : okY 104 := ⟨tg 924 rfl rfl, tg 98 rfl rfl, rfl, pn_8⟩
set_option maxRecDepth 100000 in
theorem okY_105 : okY 105 := ⟨tg 920 rfl rfl, tg 97 rfl rfl, rfl, pn_13⟩
set_option maxRecDepth 100000 in
theorem okY_106 : okY 106 := ⟨tg 955 rfl rfl, tg 100 rfl rfl, rfl, pn_2⟩
set_option maxRecDepth 100000 in
theorem okY_107 : okY 107 := ⟨tg 959 rfl rfl, tg 99 rfl rfl, rfl, pn_0⟩
set_option maxRecDepth 100000 in
theorem okY_108 : okY 108 := ⟨tg 951 rfl rfl, tg 98 rfl rfl, rfl, pn_8⟩
set_option maxRecDepth 100000 in
theorem okY_109 : okY 109 := ⟨tg 947 rfl rfl, tg 97 rfl rfl, rfl, pn_13⟩
set_option maxRecDepth 100000 in
theorem okY_110 : okY 110 := ⟨tg 967 rfl rfl, tg 98 rfl rfl, rfl, pn_8⟩
set_option maxRecDepth 100000 in
theorem okY_111 : okY 111 := ⟨tg 963 rfl rfl, tg 97 rfl rfl, rfl, pn_13⟩
set_option maxRecDepth 100000 in
theorem okY_112 : okY 112 := ⟨tg 979 rfl rfl, tg 99 rfl rfl, rfl, pn_0⟩
set_option maxRecDepth 100000 in
theorem okY_113 : okY 113 := ⟨tg 975 rfl rfl, tg 98 rfl rfl, rfl, pn_8⟩
set_option maxRecDepth 100000 in
theorem okY_114 : okY 114 := ⟨tg 971 rfl rfl, tg 97 rfl rfl, rfl, pn_13⟩
set_option maxRecDepth 100000 in
theorem okY_115 : okY 115 := ⟨tg 1000 rfl rfl, tg 106 rfl rfl, rfl, pn_6⟩
set_option maxRecDepth 100000 in
theorem okY_116 : okY 116 := ⟨tg 1007 rfl rfl, tg 106 rfl rfl, rfl, pn_6⟩
set_option maxRecDepth 100000 in
theorem okY_117 : okY 117 := ⟨tg 1004 rfl rfl, tg 106 rfl rfl, rfl, pn_6⟩
set_option maxRecDepth 100000 in
theorem okY_118 : okY 118 := ⟨tg 994 rfl rfl, tg 106 rfl rfl, rfl, pn_6⟩
set_option maxRecDepth 100000 in
theorem okY_119 : okY 119 := ⟨tg 1010 rfl rfl, tg 106 rfl rfl, rfl, pn_6⟩
set_option maxRecDepth 100000 in
theorem okY_120 : okY 120 := ⟨tg 1018 rfl rfl, tg 106 rfl rfl, rfl, pn_6⟩
set_option maxRecDepth 100000 in
theorem okY_121 : okY 121 := ⟨tg 1014 rfl rfl, tg 106 rfl rfl, rfl, pn_6⟩
set_option maxRecDepth 100000 in
theorem okY_122 : okY 122 := ⟨tg 1023 rfl rfl, tg 106 rfl rfl, rfl, pn_6⟩
set_option maxRecDepth 100000 in
theorem okY_123 : okY 123 := ⟨tg 1029 rfl rfl, tg 106 rfl rfl, rfl, pn_6⟩
set_option maxRecDepth 100000 in
theorem okY_124 : okY 124 := ⟨tg 990 rfl rfl, tg 106 rfl rfl, rfl, pn_6⟩
set_option maxRecDepth 100000 in
theorem okY_125 : okY 125 := ⟨tg 986 rfl rfl, tg 98 rfl rfl, rfl, pn_8⟩
set_option maxRecDepth 100000 in
theorem okY_126 : okY 126 := ⟨tg 982 rfl rfl, tg 97 rfl rfl, rfl, pn_13⟩
set_option maxRecDepth 100000 in
theorem okY_127 : okY 127 := ⟨tg 1036 rfl rfl, tg 98 rfl rfl, rfl, pn_8⟩
set_option maxRecDepth 100000 in
theorem okY_128 : okY 128 := ⟨tg 1032 rfl rfl, tg 97 rfl rfl, rfl, pn_13⟩
set_option maxRecDepth 100000 in
theorem okY_129 : okY 129 := ⟨tg 1047 rfl rfl, tg 106 rfl rfl, rfl, pn_6⟩
set_option maxRecDepth 100000 in
theorem okY_130 : okY 130 := ⟨tg 1051 rfl rfl, tg 106 rfl rfl, rfl, pn_6⟩
set_option maxRecDepth 100000 in
theorem okY_131 : okY 131 := ⟨tg 1043 rfl rfl, tg 98 rfl rfl, rfl, pn_8⟩
set_option maxRecDepth 100000 in
theorem okY_132 : okY 132 := ⟨tg 1039 rfl rfl, tg 97 rfl rfl, rfl, pn_13⟩
set_option maxRecDepth 100000 in
theorem okY_133 : okY 133 := ⟨tg 1062 rfl rfl, tg 106 rfl rfl, rfl, pn_6⟩
set_option maxRecDepth 100000 in
theorem okY_134 : okY 134 := ⟨tg 1058 rfl rfl, tg 98 rfl rfl, rfl, pn_8⟩
set_option maxRecDepth 100000 in
theorem okY_135 : okY 135 := ⟨tg 1054 rfl rfl, tg 97 rfl rfl, rfl, pn_13⟩
set_option maxRecDepth 100000 in
theorem okY_136 : okY 136 := ⟨tg 1069 rfl rfl, tg 98 rfl rfl, rfl, pn_8⟩
set_option maxRecDepth 100000 in
theorem okY_137 : okY 137 := ⟨tg 1065 rfl rfl, tg 97 rfl rfl, rfl, pn_13⟩
set_option maxRecDepth 100000 in
theorem okY_138 : okY 138 := ⟨tg 1076 rfl rfl, tg 98 rfl rfl, rfl, pn_8⟩
set_option maxRecDepth 100000 in
theorem okY_139 : okY 139 := ⟨tg 1072 rfl rfl, tg 97 rfl rfl, rfl, pn_13⟩
set_option maxRecDepth 100000 in
theorem okY_140 : okY 140 := ⟨tg 1087 rfl rfl, tg 100 rfl rfl, rfl, pn_2⟩
set_option maxRecDepth 100000 in
theorem okY_141 : okY 141 := ⟨tg 1083 rfl rfl, tg 98 rfl rfl, rfl, pn_8⟩
set_option maxRecDepth 100000 in
theorem okY_142 : okY 142 := ⟨tg 1079 rfl rfl, tg 97 rfl rfl, rfl, pn_13⟩
set_option maxRecDepth 100000 in
theorem okY_143 : okY 143 := ⟨tg 1099 rfl rfl, tg 99 rfl rfl, rfl, pn_0⟩
set_option maxRecDepth 100000 in
theorem okY_144 : okY 144 := ⟨tg 1095 rfl rfl, tg 98 rfl rfl, rfl, pn_8⟩
set_option maxRecDepth 100000 in
theorem okY_145 : okY 145 := ⟨tg 1091 rfl rfl, tg 97 rfl rfl, rfl, pn_13⟩
set_option maxRecDepth 100000 in
theorem okY_146 : okY 146 := ⟨tg 1111 rfl rfl, tg 98 rfl rfl, rfl, pn_8⟩
set_option maxRecDepth 100000 in
theorem okY_147 : okY 147 := ⟨tg 1107 rfl rfl, tg 98 rfl rfl, rfl, pn_8⟩
set_option maxRecDepth 100000 in
theorem okY_148 : okY 148 := ⟨tg 1103 rfl rfl, tg 97 rfl rfl, rfl, pn_13⟩
set_option maxRecDepth 100000 in
theorem okY_149 : okY 149 := ⟨tg 1118 rfl rfl, tg 98 rfl rfl, rfl, pn_8⟩
set_option maxRecDepth 100000 in
theorem okY_150 : okY 150 := ⟨tg 1114 rfl rfl, tg 97 rfl rfl, rfl, pn_13⟩
set_option maxRecDepth 100000 in
theorem okY_151 : okY 151 := ⟨tg 1130 rfl rfl, tg 99 rfl rfl, rfl, pn_0⟩
set_option maxRecDepth 100000 in
theorem okY_152 : okY 152 := ⟨tg 1125 rfl rfl, tg 98 rfl rfl, rfl, pn_8⟩
set_option maxRecDepth 100000 in
theorem okY_153 : okY 153 := ⟨tg 1121 rfl rfl, tg 97 rfl rfl, rfl, pn_13⟩
set_option maxRecDepth 100000 in
theorem okY_154 : okY 154 := ⟨tg 1142 rfl rfl, tg 99 rfl rfl, rfl, pn_0⟩
set_option maxRecDepth 100000 in
theorem okY_155 : okY 155 := ⟨tg 1138 rfl rfl, tg 98 rfl rfl, rfl, pn_8⟩
set_option maxRecDepth 100000 in
theorem okY_156 : okY 156 := ⟨tg 1134 rfl rfl, tg 97 rfl rfl, rfl, pn_13⟩
set_option maxRecDepth 100000 in
theorem okY_157 : okY 157 := ⟨tg 1155 rfl rfl, tg 101 rfl rfl, rfl, pn_3⟩
set_option maxRecDepth 100000 in
theorem okY_158 : okY 158 := ⟨tg 1151 rfl rfl, tg 98 rfl rfl, rfl, pn_8⟩
set_option maxRecDepth 100000 in
theorem okY_159 : okY 159 := ⟨tg 1147 rfl rfl, tg 97 rfl rfl, rfl, pn_13⟩
set_option maxRecDepth 100000 in
theorem okY_160 : okY 160 := ⟨tg 1162 rfl rfl, tg 98 rfl rfl, rfl, pn_8⟩
set_option maxRecDepth 100000 in
theorem okY_161 : okY 161 := ⟨tg 1158 rfl rfl, tg 97 rfl rfl, rfl, pn_13⟩
set_option maxRecDepth 100000 in
theorem okY_162 : okY 162 := ⟨tg 1169 rfl rfl, tg 98 rfl rfl, rfl, pn_8⟩
set_option maxRecDepth 100000 in
theorem okY_163 : okY 163 := ⟨tg 1165 rfl rfl, tg 97 rfl rfl, rfl, pn_13⟩
set_option maxRecDepth 100000 in
theorem okY_164 : okY 164 := ⟨tg 1180 rfl rfl, tg 103 rfl rfl, rfl, pn_1⟩
set_option maxRecDepth 100000 in
theorem okY_165 : okY 165 := ⟨tg 1176 rfl rfl, tg 98 rfl rfl, rfl, pn_8⟩
set_option maxRecDepth 100000 in
theorem okY_166 : okY 166 := ⟨tg 1172 rfl rfl, tg 97 rfl rfl, rfl, pn_13⟩
set_option maxRecDepth 100000 in
theorem okY_167 : okY 167 := ⟨tg 1192 rfl rfl, tg 100 rfl rfl, rfl, pn_2⟩
set_option maxRecDepth 100000 in
theorem okY_168 : okY 168 := ⟨tg 1188 rfl rfl, tg 98 rfl rfl, rfl, pn_8⟩
set_option maxRecDepth 100000 in
theorem okY_169 : okY 169 := ⟨tg 1184 rfl rfl, tg 97 rfl rfl, rfl, pn_13⟩
set_option maxRecDepth 100000 in
theorem okY_170 : okY 170 := ⟨tg 1199 rfl rfl, tg 98 rfl rfl, rfl, pn_8⟩
set_option maxRecDepth 100000 in
theorem okY_171 : okY 171 := ⟨tg 1195 rfl rfl, tg 97 rfl rfl, rfl, pn_13⟩
set_option maxRecDepth 100000 in
theorem okY_172 : okY 172 := ⟨tg 1206 rfl rfl, tg 98 rfl rfl, rfl, pn_8⟩
set_option maxRecDepth 100000 in
theorem okY_173 : okY 173 := ⟨tg 1202 rfl rfl, tg 97 rfl rfl, rfl, pn_13⟩
set_option maxRecDepth 100000 in
theorem okY_174 : okY 174 := ⟨tg 1213 rfl rfl, tg 98 rfl rfl, rfl, pn_8⟩
set_option maxRecDepth 100000 in
theorem okY_175 : okY 175 := ⟨tg 1209 rfl rfl, tg 97 rfl rfl, rfl, pn_13⟩
set_option maxRecDepth 100000 in
theorem okY_176 : okY 176 := ⟨tg 1220 rfl rfl, tg 98 rfl rfl, rfl, pn_8⟩
set_option maxRecDepth 100000 in
theorem okY_177 : okY 177 := ⟨tg 1216 rfl rfl, tg 97 rfl rfl, rfl, pn_13⟩
set_option maxRecDepth 100000 in
theorem okY_178 : okY 178 := ⟨tg 1228 rfl rfl, tg 98 rfl rfl, rfl, pn_8⟩
set_option maxRecDepth 100000 in
theorem okY_179 : okY 179 := ⟨tg 1224 rfl rfl, tg 97 rfl rfl, rfl, pn_13⟩
set_option maxRecDepth 100000 in
theorem okY_180 : okY 180 := ⟨tg 1240 rfl rfl, tg 106 rfl rfl, rfl, pn_6⟩
set_option maxRecDepth 100000 in
theorem okY_181 : okY 181 := ⟨tg 1236 rfl rfl, tg 98 rfl rfl, rfl, pn_8⟩
set_option maxRecDepth 100000 in
theorem okY_182 : okY 182 := ⟨tg 1232 rfl rfl, tg 97 rfl rfl, rfl, pn_13⟩
set_option maxRecDepth 100000 in
theorem okY_183 : okY 183 := ⟨tg 1251 rfl rfl, tg 100 rfl rfl, rfl, pn_2⟩
set_option maxRecDepth 100000 in
theorem okY_184 : okY 184 := ⟨tg 1255 rfl rfl, tg 100 rfl rfl, rfl, pn_2⟩
set_option maxRecDepth 100000 in
theorem okY_185 : okY 185 := ⟨tg 1247 rfl rfl, tg 98 rfl rfl, rfl, pn_8⟩
set_option maxRecDepth 100000 in
theorem okY_186 : okY 186 := ⟨tg 1243 rfl rfl, tg 97 rfl rfl, rfl, pn_13⟩
set_option maxRecDepth 100000 in
theorem okY_187 : okY 187 := ⟨tg 1266 rfl rfl, tg 100 rfl rfl, rfl, pn_2⟩
set_option maxRecDepth 100000 in
theorem okY_188 : okY 188 := ⟨tg 1262 rfl rfl, tg 98 rfl rfl, rfl, pn_8⟩
set_option maxRecDepth 100000 in
theorem okY_189 : okY 189 := ⟨tg 1258 rfl rfl, tg 97 rfl rfl, rfl, pn_13⟩
set_option maxRecDepth 100000 in
theorem okY_190 : okY 190 := ⟨tg 1281 rfl rfl, tg 115 rfl rfl, rfl, pn_5⟩
set_option maxRecDepth 100000 in
theorem okY_191 : okY 191 := ⟨tg 1278 rfl rfl, tg 99 rfl rfl, rfl, pn_0⟩
set_option maxRecDepth 100000 in
theorem okY_192 : okY 192 := ⟨tg 1285 rfl rfl, tg 100 rfl rfl, rfl, pn_2⟩
set_option maxRecDepth 100000 in
theorem okY_193 : okY 193 := ⟨tg 1274 rfl rfl, tg 98 rfl rfl, rfl, pn_8⟩
set_option maxRecDepth 100000 in
theorem okY_194 : okY 194 := ⟨tg 1270 rfl rfl, tg 97 rfl rfl, rfl, pn_13⟩
set_option maxRecDepth 100000 in
theorem okY_195 : okY 195 := ⟨tg 1292 rfl rfl, tg 98 rfl rfl, rfl, pn_8⟩
set_option maxRecDepth 100000 in
theorem okY_196 : okY 196 := ⟨tg 1288 rfl rfl, tg 97 rfl rfl, rfl, pn_13⟩
set_option maxRecDepth 100000 in
theorem okY_197 : okY 197 := ⟨tg 1299 rfl rfl, tg 98 rfl rfl, rfl, pn_8⟩
set_option maxRecDepth 100000 in
theorem okY_198 : okY 198 := ⟨tg 1295 rfl rfl, tg 97 rfl rfl, rfl, pn_13⟩
set_option maxRecDepth 100000 in
theorem okY_199 : okY 199 := ⟨tg 1306 rfl rfl, tg 98 rfl rfl, rfl, pn_8⟩
set_option maxRecDepth 100000 in
theorem okY_200 : okY 200 := ⟨tg 1302 rfl rfl, tg 97 rfl rfl, rfl, pn_13⟩
set_option maxRecDepth 100000 in
theorem okY_201 : okY 201 := ⟨tg 1313 rfl rfl, tg 98 rfl rfl, rfl, pn_8⟩
set_option maxRecDepth 100000 in
theorem okY_202 : okY 202 := ⟨tg 1309 rfl rfl, tg 97 rfl rfl, rfl, pn_13⟩
set_option maxRecDepth 100000 in
theorem okY_203 : okY 203 := ⟨tg 1321 rfl rfl, tg 98 rfl rfl, rfl, pn_8⟩
set_option maxRecDepth 100000 in
theorem okY_204 : okY 204 := ⟨tg 1317 rfl rfl, tg 97 rfl rfl, rfl, pn_13⟩
set_option maxRecDepth 100000 in
theorem okY_205 : okY 205 := ⟨tg 1339 rfl rfl, tg 105 rfl rfl, rfl, pn_7⟩
set_option maxRecDepth 100000 in
theorem okY_206 : okY 206 := ⟨tg 1332 rfl rfl, tg 105 rfl rfl, rfl, pn_7⟩
set_option maxRecDepth 100000 in
theorem okY_207 : okY 207 := ⟨tg 1328 rfl rfl, tg 98 rfl rfl, rfl, pn_8⟩
set_option maxRecDepth 100000 in
theorem okY_208 : okY 208 := ⟨tg 1324 rfl rfl, tg 97 rfl rfl, rfl, pn_13⟩
set_option maxRecDepth 100000 in
theorem okY_209 : okY 209 := ⟨tg 1347 rfl rfl, tg 98 rfl rfl, rfl, pn_8⟩
set_option maxRecDepth 100000 in
theorem okY_210 : okY 210 := ⟨tg 1343 rfl rfl, tg 97 rfl rfl, rfl, pn_13⟩
set_option maxRecDepth 100000 in
theorem okY_211 : okY 211 := ⟨tg 1354 rfl rfl, tg 98 rfl rfl, rfl, pn_8⟩
set_option maxRecDepth 100000 in
theorem okY_212 : okY 212 := ⟨tg 1350 rfl rfl, tg 97 rfl rfl, rfl, pn_13⟩
set_option maxRecDepth 100000 in
theorem okY_213 : okY 213 := ⟨tg 1361 rfl rfl, tg 98 rfl rfl, rfl, pn_8⟩
set_option maxRecDepth 100000 in
theorem okY_214 : okY 214 := ⟨tg 1357 rfl rfl, tg 97 rfl rfl, rfl, pn_13⟩
set_option maxRecDepth 100000 in
theorem okY_215 : okY 215 := ⟨tg 1371 rfl rfl, tg 107 rfl rfl, rfl, pn_9⟩
set_option maxRecDepth 100000 in
theorem okY_216 : okY 216 := ⟨tg 1366 rfl rfl, tg 107 rfl rfl, rfl, pn_9⟩
set_option maxRecDepth 100000 in
theorem okY_217 : okY 217 := ⟨tg 1469 rfl rfl, tg 107 rfl rfl, rfl, pn_9⟩
set_option maxRecDepth 100000 in
theorem okY_218 : okY 218 := ⟨tg 1473 rfl rfl, tg 107 rfl rfl, rfl, pn_9⟩
set_option maxRecDepth 100000 in
theorem okY_219 : okY 219 := ⟨tg 1482 rfl rfl, tg 107 rfl rfl, rfl, pn_9⟩
set_option maxRecDepth 100000 in
theorem okY_220 : okY 220 := ⟨tg 1499 rfl rfl, tg 107 rfl rfl, rfl, pn_9⟩
set_option maxRecDepth 100000 in
theorem okY_221 : okY 221 := ⟨tg 1504 rfl rfl, tg 107 rfl rfl, rfl, pn_9⟩
set_option maxRecDepth 100000 in
theorem okY_222 : okY 222 := ⟨tg 1508 rfl rfl, tg 107 rfl rfl, rfl, pn_9⟩
set_option maxRecDepth 100000 in
theorem okY_223 : okY 223 := ⟨tg 1495 rfl rfl, tg 107 rfl rfl, rfl, pn_9⟩
set_option maxRecDepth 100000 in
theorem okY_224 : okY 224 := ⟨tg 1524 rfl rfl, tg 107 rfl rfl, rfl, pn_9⟩
set_option maxRecDepth 100000 in
theorem okY_225 : okY 225 := ⟨tg 1518 rfl rfl, tg 107 rfl rfl, rfl, pn_9⟩
set_option maxRecDepth 100000 in
theorem okY_226 : okY 226 := ⟨tg 1514 rfl rfl, tg 107 rfl rfl, rfl, pn_9⟩
set_option maxRecDepth 100000 in
theorem okY_227 : okY 227 := ⟨tg 1531 rfl rfl, tg 107 rfl rfl, rfl, pn_9⟩
set_option maxRecDepth 100000 in
theorem okY_228 : okY 228 := ⟨tg 1543 rfl rfl, tg 107 rfl rfl, rfl, pn_9⟩
set_option maxRecDepth 100000 in
theorem okY_229 : okY 229 := ⟨tg 1540 rfl rfl, tg 107 rfl rfl, rfl, pn_9⟩
set_option maxRecDepth 100000 in
theorem okY_230 : okY 230 := ⟨tg 1562 rfl rfl, tg 107 rfl rfl, rfl, pn_9⟩
set_option maxRecDepth 100000 in
theorem okY_231 : okY 231 := ⟨tg 1559 rfl rfl, tg 107 rfl rfl, rfl, pn_9⟩
set_option maxRecDepth 100000 in
theorem okY_232 : okY 232 := ⟨tg 1536 rfl rfl, tg 107 rfl rfl, rfl, pn_9⟩
set_option maxRecDepth 100000 in
theorem okY_233 : okY 233 := ⟨tg 1574 rfl rfl, tg 107 rfl rfl, rfl, pn_9⟩
set_option maxRecDepth 100000 in
theorem okY_234 : okY 234 := ⟨tg 1571 rfl rfl, tg 107 rfl rfl, rfl, pn_9⟩
set_option maxRecDepth 100000 in
theorem okY_235 : okY 235 := ⟨tg 1567 rfl rfl, tg 107 rfl rfl, rfl, pn_9⟩
set_option maxRecDepth 100000 in
theorem okY_236 : okY 236 := ⟨tg 1586 rfl rfl, tg 107 rfl rfl, rfl, pn_9⟩
set_option maxRecDepth 100000 in
theorem okY_237 : okY 237 := ⟨tg 1583 rfl rfl, tg 107 rfl rfl, rfl, pn_9⟩
set_option maxRecDepth 100000 in
theorem okY_238 : okY 238 := ⟨tg 1579 rfl rfl, tg 107 rfl rfl, rfl, pn_9⟩
set_option maxRecDepth 100000 in
theorem okY_239 : okY 239 := ⟨tg 1490 rfl rfl, tg 107 rfl rfl, rfl, pn_9⟩
set_option maxRecDepth 100000 in
theorem okY_240 : okY 240 := ⟨tg 1486 rfl rfl, tg 107 rfl rfl, rfl, pn_9⟩
set_option maxRecDepth 100000 in
theorem okY_241 : okY 241 := ⟨tg 1590 rfl rfl, tg 107 rfl rfl, rfl, pn_9⟩
set_option maxRecDepth 100000 in
theorem okY_242 : okY 242 := ⟨tg 1478 rfl rfl, tg 107 rfl rfl, rfl, pn_9⟩
set_option maxRecDepth 100000 in
theorem okY_243 : okY 243 := ⟨tg 1594 rfl rfl, tg 107 rfl rfl, rfl, pn_9⟩
set_option maxRecDepth 100000 in
theorem okY_244 : okY 244 := ⟨tg 1598 rfl rfl, tg 107 rfl rfl, rfl, pn_9⟩
set_option maxRecDepth 100000 in
theorem okY_245 : okY 245 := ⟨tg 1607 rfl rfl, tg 107 rfl rfl, rfl, pn_9⟩
set_option maxRecDepth 100000 in
theorem okY_246 : okY 246 := ⟨tg 1618 rfl rfl, tg 107 rfl rfl, rfl, pn_9⟩
set_option maxRecDepth 100000 in
theorem okY_247 : okY 247 := ⟨tg 1615 rfl rfl, tg 107 rfl rfl, rfl, pn_9⟩
set_option maxRecDepth 100000 in
theorem okY_248 : okY 248 := ⟨tg 1611 rfl rfl, tg 107 rfl rfl, rfl, pn_9⟩
set_option maxRecDepth 100000 in
theorem okY_249 : okY 249 := ⟨tg 1631 rfl rfl, tg 107 rfl rfl, rfl, pn_9⟩
set_option maxRecDepth 100000 in
theorem okY_250 : okY 250 := ⟨tg 1642 rfl rfl, tg 107 rfl rfl, rfl, pn_9⟩
set_option maxRecDepth 100000 in
theorem okY_251 : okY 251 := ⟨tg 1639 rfl rfl, tg 107 rfl rfl, rfl, pn_9⟩
set_option maxRecDepth 100000 in
theorem okY_252 : okY 252 := ⟨tg 1635 rfl rfl, tg 107 rfl rfl, rfl, pn_9⟩
set_option maxRecDepth 100000 in
theorem okY_253 : okY 253 := ⟨tg 1650 rfl rfl, tg 107 rfl rfl, rfl, pn_9⟩
set_option maxRecDepth 100000 in
theorem okY_254 : okY 254 := ⟨tg 1646 rfl rfl, tg 107 rfl rfl, rfl, pn_9⟩
set_option maxRecDepth 100000 in
theorem okY_255 : okY 255 := ⟨tg 1627 rfl rfl, tg 107 rfl rfl, rfl, pn_9⟩
set_option maxRecDepth 100000 in
theorem okY_256 : okY 256 := ⟨tg 1622 rfl rfl, tg 107 rfl rfl, rfl, pn_9⟩
set_option maxRecDepth 100000 in
theorem okY_257 : okY 257 := ⟨tg 1602 rfl rfl, tg 107 rfl rfl, rfl, pn_9⟩
set_option maxRecDepth 100000 in
theorem okY_258 : okY 258 := ⟨tg 1662 rfl rfl, tg 107 rfl rfl, rfl, pn_9⟩
set_option maxRecDepth 100000 in
theorem okY_259 : okY 259 := ⟨tg 1658 rfl rfl, tg 107 rfl rfl, rfl, pn_9⟩
set_option maxRecDepth 100000 in
theorem okY_260 : okY 260 := ⟨tg 1667 rfl rfl, tg 107 rfl rfl, rfl, pn_9⟩
set_option maxRecDepth 100000 in
theorem okY_261 : okY 261 := ⟨tg 1671 rfl rfl, tg 107 rfl rfl, rfl, pn_9⟩
set_option maxRecDepth 100000 in
theorem okY_262 : okY 262 := ⟨tg 1675 rfl rfl, tg 107 rfl rfl, rfl, pn_9⟩
set_option maxRecDepth 100000 in
theorem okY_263 : okY 263 := ⟨tg 1679 rfl rfl, tg 107 rfl rfl, rfl, pn_9⟩
set_option maxRecDepth 100000 in
theorem okY_264 : okY 264 := ⟨tg 1683 rfl rfl, tg 107 rfl rfl, rfl, pn_9⟩
set_option maxRecDepth 100000 in
theorem okY_265 : okY 265 := ⟨tg 1654 rfl rfl, tg 107 rfl rfl, rfl, pn_9⟩
set_option maxRecDepth 100000 in
theorem okY_266 : okY 266 := ⟨tg 1692 rfl rfl, tg 107 rfl rfl, rfl, pn_9⟩
set_option maxRecDepth 100000 in
theorem okY_267 : okY 267 := ⟨tg 1705 rfl rfl, tg 107 rfl rfl, rfl, pn_9⟩
set_option maxRecDepth 100000 in
theorem okY_268 : okY 268 := ⟨tg 1701 rfl rfl, tg 107 rfl rfl, rfl, pn_9⟩
set_option maxRecDepth 100000 in
theorem okY_269 : okY 269 := ⟨tg 1697 rfl rfl, tg 107 rfl rfl, rfl, pn_9⟩
set_option maxRecDepth 100000 in
theorem okY_270 : okY 270 := ⟨tg 1688 rfl rfl, tg 107 rfl rfl, rfl, pn_9⟩
set_option maxRecDepth 100000 in
theorem okY_271 : okY 271 := ⟨tg 1717 rfl rfl, tg 107 rfl rfl, rfl, pn_9⟩
set_option maxRecDepth 100000 in
theorem okY_272 : okY 272 := ⟨tg 1721 rfl rfl, tg 107 rfl rfl, rfl, pn_9⟩
set_option maxRecDepth 100000 in
theorem okY_273 : okY 273 := ⟨tg 1713 rfl rfl, tg 107 rfl rfl, rfl, pn_9⟩
set_option maxRecDepth 100000 in
theorem okY_274 : okY 274 := ⟨tg 1709 rfl rfl, tg 107 rfl rfl, rfl, pn_9⟩
set_option maxRecDepth 100000 in
theorem okY_275 : okY 275 := ⟨tg 1729 rfl rfl, tg 107 rfl rfl, rfl, pn_9⟩
set_option maxRecDepth 100000 in
theorem okY_276 : okY 276 := ⟨tg 1725 rfl rfl, tg 107 rfl rfl, rfl, pn_9⟩
set_option maxRecDepth 100000 in
theorem okY_277 : okY 277 := ⟨tg 1733 rfl rfl, tg 107 rfl rfl, rfl, pn_9⟩
set_option maxRecDepth 100000 in
theorem okY_278 : okY 278 := ⟨tg 1737 rfl rfl, tg 107 rfl rfl, rfl, pn_9⟩
set_option maxRecDepth 100000 in
theorem okY_279 : okY 279 := ⟨tg 1753 rfl rfl, tg 107 rfl rfl, rfl, pn_9⟩
set_option maxRecDepth 100000 in
theorem okY_280 : okY 280 := ⟨tg 1749 rfl rfl, tg 107 rfl rfl, rfl, pn_9⟩
set_option maxRecDepth 100000 in
theorem okY_281 : okY 281 := ⟨tg 1745 rfl rfl, tg 107 rfl rfl, rfl, pn_9⟩
set_option maxRecDepth 100000 in
theorem okY_282 : okY 282 := ⟨tg 1741 rfl rfl, tg 107 rfl rfl, rfl, pn_9⟩
set_option maxRecDepth 100000 in
theorem okY_283 : okY 283 := ⟨tg 1757 rfl rfl, tg 107 rfl rfl, rfl, pn_9⟩
set_option maxRecDepth 100000 in
theorem okY_284 : okY 284 := ⟨tg 1761 rfl rfl, tg 107 rfl rfl, rfl, pn_9⟩
set_option maxRecDepth 100000 in
theorem okY_285 : okY 285 := ⟨tg 1770 rfl rfl, tg 107 rfl rfl, rfl, pn_9⟩
set_option maxRecDepth 100000 in
theorem okY_286 : okY 286 := ⟨tg 1766 rfl rfl, tg 107 rfl rfl, rfl, pn_9⟩
set_option maxRecDepth 100000 in
theorem okY_287 : okY 287 := ⟨tg 1782 rfl rfl, tg 107 rfl rfl, rfl, pn_9⟩
set_option maxRecDepth 100000 in
theorem okY_288 : okY 288 := ⟨tg 1778 rfl rfl, tg 107 rfl rfl, rfl, pn_9⟩
set_option maxRecDepth 100000 in
theorem okY_289 : okY 289 := ⟨tg 1774 rfl rfl, tg 107 rfl rfl, rfl, pn_9⟩
set_option maxRecDepth 100000 in
theorem okY_290 : okY 290 := ⟨tg 1794 rfl rfl, tg 107 rfl rfl, rfl, pn_9⟩
set_option maxRecDepth 100000 in
theorem okY_291 : okY 291 := ⟨tg 1790 rfl rfl, tg 107 rfl rfl, rfl, pn_9⟩
set_option maxRecDepth 100000 in
theorem okY_292 : okY 292 := ⟨tg 1786 rfl rfl, tg 107 rfl rfl, rfl, pn_9⟩
set_option maxRecDepth 100000 in
theorem okY_293 : okY 293 := ⟨tg 1814 rfl rfl, tg 107 rfl rfl, rfl, pn_9⟩
set_option maxRecDepth 100000 in
theorem okY_294 : okY 294 := ⟨tg 1810 rfl rfl, tg 107 rfl rfl, rfl, pn_9⟩
set_option maxRecDepth 100000 in
theorem okY_295 : okY 295 := ⟨tg 1818 rfl rfl, tg 107 rfl rfl, rfl, pn_9⟩
set_option maxRecDepth 100000 in
theorem okY_296 : okY 296 := ⟨tg 1826 rfl rfl, tg 107 rfl rfl, rfl, pn_9⟩
set_option maxRecDepth 100000 in
theorem okY_297 : okY 297 := ⟨tg 1822 rfl rfl, tg 107 rfl rfl, rfl, pn_9⟩
set_option maxRecDepth 100000 in
theorem okY_298 : okY 298 := ⟨tg 1806 rfl rfl, tg 107 rfl rfl, rfl, pn_9⟩
set_option maxRecDepth 100000 in
theorem okY_299 : okY 299 := ⟨tg 1802 rfl rfl, tg 107 rfl rfl, rfl, pn_9⟩
set_option maxRecDepth 100000 in
theorem okY_300 : okY 300 := ⟨tg 1798 rfl rfl, tg 107 rfl rfl, rfl, pn_9⟩
set_option maxRecDepth 100000 in
theorem okY_301 : okY 301 := ⟨tg 1830 rfl rfl, tg 107 rfl rfl, rfl, pn_9⟩
set_option maxRecDepth 100000 in
theorem okY_302 : okY 302 := ⟨tg 1834 rfl rfl, tg 107 rfl rfl, rfl, pn_9⟩
set_option maxRecDepth 100000 in
theorem okY_303 : okY 303 := ⟨tg 1838 rfl rfl, tg 107 rfl rfl, rfl, pn_9⟩
set_option maxRecDepth 100000 in
theorem okY_304 : okY 304 := ⟨tg 1842 rfl rfl, tg 107 rfl rfl, rfl, pn_9⟩
set_option maxRecDepth 100000 in
theorem okY_305 : okY 305 := ⟨tg 1846 rfl rfl, tg 107 rfl rfl, rfl, pn_9⟩
set_option maxRecDepth 100000 in
theorem okY_306 : okY 306 := ⟨tg 1850 rfl rfl, tg 107 rfl rfl, rfl, pn_9⟩
set_option maxRecDepth 100000 in
theorem okY_307 : okY 307 := ⟨tg 1858 rfl rfl, tg 107 rfl rfl, rfl, pn_9⟩
set_option maxRecDepth 100000 in
theorem okY_308 : okY 308 := ⟨tg 1854 rfl rfl, tg 107 rfl rfl, rfl, pn_9⟩
set_option maxRecDepth 100000 in
theorem okY_309 : okY 309 := ⟨tg 1865 rfl rfl, tg 107 rfl rfl, rfl, pn_9⟩
set_option maxRecDepth 100000 in
theorem okY_310 : okY 310 := ⟨tg 1870 rfl rfl, tg 107 rfl rfl, rfl, pn_9⟩
set_option maxRecDepth 100000 in
theorem okY_311 : okY 311 := ⟨tg 1862 rfl rfl, tg 107 rfl rfl, rfl, pn_9⟩
set_option maxRecDepth 100000 in
theorem okY_312 : okY 312 := ⟨tg 1874 rfl rfl, tg 107 rfl rfl, rfl, pn_9⟩
set_option maxRecDepth 100000 in
theorem okY_313 : okY 313 := ⟨tg 1883 rfl rfl, tg 107 rfl rfl, rfl, pn_9⟩
set_option maxRecDepth 100000 in
theorem okY_314 : okY 314 := ⟨tg 1878 rfl rfl, tg 107 rfl rfl, rfl, pn_9⟩
set_option maxRecDepth 100000 in
theorem okY_315 : okY 315 := ⟨tg 1887 rfl rfl, tg 107 rfl rfl, rfl, pn_9⟩
set_option maxRecDepth 100000 in
theorem okY_316 : okY 316 := ⟨tg 1891 rfl rfl, tg 107 rfl rfl, rfl, pn_9⟩
set_option maxRecDepth 100000 in
theorem okY_317 : okY 317 := ⟨tg 1898 rfl rfl, tg 107 rfl rfl, rfl, pn_9⟩
set_option maxRecDepth 100000 in
theorem okY_318 : okY 318 := ⟨tg 1911 rfl rfl, tg 107 rfl rfl, rfl, pn_9⟩
set_option maxRecDepth 100000 in
theorem okY_319 : okY 319 := ⟨tg 1907 rfl rfl, tg 107 rfl rfl, rfl, pn_9⟩
set_option maxRecDepth 100000 in
theorem okY_320 : okY 320 := ⟨tg 1903 rfl rfl, tg 107 rfl rfl, rfl, pn_9⟩
set_option maxRecDepth 100000 in
theorem okY_321 : okY 321 := ⟨tg 1895 rfl rfl, tg 107 rfl rfl, rfl, pn_9⟩
set_option maxRecDepth 100000 in
theorem okY_322 : okY 322 := ⟨tg 1915 rfl rfl, tg 107 rfl rfl, rfl, pn_9⟩
set_option maxRecDepth 100000 in
theorem okY_323 : okY 323 := ⟨tg 1919 rfl rfl, tg 107 rfl rfl, rfl, pn_9⟩
set_option maxRecDepth 100000 in
theorem okY_324 : okY 324 := ⟨tg 1923 rfl rfl, tg 107 rfl rfl, rfl, pn_9⟩
set_option maxRecDepth 100000 in
theorem okY_325 : okY 325 := ⟨tg 1927 rfl rfl, tg 107 rfl rfl, rfl, pn_9⟩
set_option maxRecDepth 100000 in
theorem okY_326 : okY 326 := ⟨tg 1935 rfl rfl, tg 107 rfl rfl, rfl, pn_9⟩
set_option maxRecDepth 100000 in
theorem okY_327 : okY 327 := ⟨tg 1931 rfl rfl, tg 107 rfl rfl, rfl, pn_9⟩
set_option maxRecDepth 100000 in
theorem okY_328 : okY 328 := ⟨tg 1939 rfl rfl, tg 107 rfl rfl, rfl, pn_9⟩
set_option maxRecDepth 100000 in
theorem okY_329 : okY 329 := ⟨tg 1946 rfl rfl, tg 107 rfl rfl, rfl, pn_9⟩
set_option maxRecDepth 100000 in
theorem okY_330 : okY 330 := ⟨tg 1943 rfl rfl, tg 107 rfl rfl, rfl, pn_9⟩
set_option maxRecDepth 100000 in
theorem okY_331 : okY 331 := ⟨tg 1955 rfl rfl, tg 107 rfl rfl, rfl, pn_9⟩
set_option maxRecDepth 100000 in
theorem okY_332 : okY 332 := ⟨tg 1951 rfl rfl, tg 107 rfl rfl, rfl, pn_9⟩
set_option maxRecDepth 100000 in
theorem okY_333 : okY 333 := ⟨tg 1959 rfl rfl, tg 107 rfl rfl, rfl, pn_9⟩
set_option maxRecDepth 100000 in
theorem okY_334 : okY 334 := ⟨tg 1963 rfl rfl, tg 107 rfl rfl, rfl, pn_9⟩
set_option maxRecDepth 100000 in
theorem okY_335 : okY 335 := ⟨tg 1971 rfl rfl, tg 107 rfl rfl, rfl, pn_9⟩
set_option maxRecDepth 100000 in
theorem okY_336 : okY 336 := ⟨tg 1967 rfl rfl, tg 107 rfl rfl, rfl, pn_9⟩
set_option maxRecDepth 100000 in
theorem okY_337 : okY 337 := ⟨tg 1975 rfl rfl, tg 107 rfl rfl, rfl, pn_9⟩
set_option maxRecDepth 100000 in
theorem okY_338 : okY 338 := ⟨tg 1979 rfl rfl, tg 107 rfl rfl, rfl, pn_9⟩
set_option maxRecDepth 100000 in
theorem okY_339 : okY 339 := ⟨tg 1984 rfl rfl, tg 107 rfl rfl, rfl, pn_9⟩
set_option maxRecDepth 100000 in
theorem okY_340 : okY 340 := ⟨tg 1988 rfl rfl, tg 107 rfl rfl, rfl, pn_9⟩
set_option maxRecDepth 100000 in
theorem okY_341 : okY 341 := ⟨tg 1992 rfl rfl, tg 107 rfl rfl, rfl, pn_9⟩
set_option maxRecDepth 100000 in
theorem okY_342 : okY 342 := ⟨tg 1997 rfl rfl, tg 107 rfl rfl, rfl, pn_9⟩
set_option maxRecDepth 100000 in
theorem okY_343 : okY 343 := ⟨tg 2001 rfl rfl, tg 107 rfl rfl, rfl, pn_9⟩
set_option maxRecDepth 100000 in
theorem okY_344 : okY 344 := ⟨tg 2005 rfl rfl, tg 107 rfl rfl, rfl, pn_9⟩
set_option maxRecDepth 100000 in
theorem okY_345 : okY 345 := ⟨tg 2010 rfl rfl, tg 107 rfl rfl, rfl, pn_9⟩
set_option maxRecDepth 100000 in
theorem okY_346 : okY 346 := ⟨tg 2014 rfl rfl, tg 107 rfl rfl, rfl, pn_9⟩
set_option maxRecDepth 100000 in
theorem okY_347 : okY 347 := ⟨tg 2026 rfl rfl, tg 107 rfl rfl, rfl, pn_9⟩
set_option maxRecDepth 100000 in
theorem okY_348 : okY 348 := ⟨tg 2022 rfl rfl, tg 107 rfl rfl, rfl, pn_9⟩
set_option maxRecDepth 100000 in
theorem okY_349 : okY 349 := ⟨tg 2018 rfl rfl, tg 107 rfl rfl, rfl, pn_9⟩
set_option maxRecDepth 100000 in
theorem okY_350 : okY 350 := ⟨tg 2030 rfl rfl, tg 107 rfl rfl, rfl, pn_9⟩
set_option maxRecDepth 100000 in
theorem okY_351 : okY 351 := ⟨tg 2034 rfl rfl, tg 107 rfl rfl, rfl, pn_9⟩
set_option maxRecDepth 100000 in
theorem okY_352 : okY 352 := ⟨tg 2038 rfl rfl, tg 107 rfl rfl, rfl, pn_9⟩
set_option maxRecDepth 100000 in
theorem okY_353 : okY 353 := ⟨tg 2042 rfl rfl, tg 107 rfl rfl, rfl, pn_9⟩
set_option maxRecDepth 100000 in
theorem okY_354 : okY 354 := ⟨tg 2046 rfl rfl, tg 107 rfl rfl, rfl, pn_9⟩
set_option maxRecDepth 100000 in
theorem okY_to_50 : ∀ M, M < 50 → okY M := lt_s (lt_s (lt_s (lt_s (lt_s (lt_s (lt_s (lt_s (lt_s (lt_s (lt_s (lt_s (lt_s (lt_s (lt_s (lt_s (lt_s (lt_s (lt_s (lt_s (lt_s (lt_s (lt_s (lt_s (lt_s (lt_s (lt_s (lt_s (lt_s (lt_s (lt_s (lt_s (lt_s (lt_s (lt_s (lt_s (lt_s (lt_s (lt_s (lt_s (lt_s (lt_s (lt_s (lt_s (lt_s (lt_s (lt_s (lt_s (lt_s (lt_s (lt_0) okY_0) okY_1) okY_2) okY_3) okY_4) okY_5) okY_6) okY_7) okY_8) okY_9) okY_10) okY_11) okY_12) okY_13) okY_14) okY_15) okY_16) okY_17) okY_18) okY_19) okY_20) okY_21) okY_22) okY_23) okY_24) okY_25) okY_26) okY_27) okY_28) okY_29) okY_30) okY_31) okY_32) okY_33) okY_34) okY_35) okY_36) okY_37) okY_38) okY_39) okY_40) okY_41) okY_42) okY_43) okY_44) okY_45) okY_46) okY_47) okY_48) okY_49
set_option maxRecDepth 100000 in
theorem okY_to_100 : ∀ M, M < 100 → okY M := lt_s (lt_s (lt_s (lt_s (lt_s (lt_s (lt_s (lt_s (lt_s (lt_s (lt_s (lt_s (lt_s (lt_s (lt_s (lt_s (lt_s (lt_s (lt_s (lt_s (lt_s (lt_s (lt_s (lt_s (lt_s (lt_s (lt_s (lt_s (lt_s (lt_s (lt_s (lt_s (lt_s (lt_s (lt_s (lt_s (lt_s (lt_s (lt_s (lt_s (lt_s (lt_s (lt_s (lt_s (lt_s (lt_s (lt_s (lt_s (lt_s (lt_s (okY_to_50) okY_50) okY_51) okY_52) okY_53) okY_54) okY_55) okY_56) okY_57) okY_58) okY_59) okY_60) okY_61) okY_62) okY_63) okY_64) okY_65) okY_66) okY_67) okY_68) okY_69) okY_70) okY_71) okY_72) okY_73) okY_74) okY_75) okY_76) okY_77) okY_78) okY_79) okY_80) okY_81) okY_82) okY_83) okY_84) okY_85) okY_86) okY_87) okY_88) okY_89) okY_90) okY_91) okY_92) okY_93) okY_94) okY_95) okY_96) okY_97) okY_98) okY_99
set_option maxRecDepth 100000 in
theorem okY_to_150 : ∀ M, M < 150 → okY M := lt_s (lt_s (lt_s (lt_s (lt_s (lt_s (lt_s (lt_s (lt_s (lt_s (lt_s (lt_s (lt_s (lt_s (lt_s (lt_s (lt_s (lt_s (lt_s (lt_s (lt_s (lt_s (lt_s (lt_s (lt_s (lt_s (lt_s (lt_s (lt_s (lt_s (lt_s (lt_s (lt_s (lt_s (lt_s (lt_s (lt_s (lt_s (lt_s (lt_s (lt_s (lt_s (lt_s (lt_s (lt_s (lt_s (lt_s (lt_s (lt_s (lt_s (okY_to_100) okY_100) okY_101) okY_102) okY_103) okY_104) okY_105) okY_106) okY_107) okY_108) okY_109) okY_110) okY_111) okY_112) okY_113) okY_114) okY_115) okY_116) okY_117) okY_118) okY_119) okY_120) okY_121) okY_122) okY_123) okY_124) okY_125) okY_126) okY_127) okY_128) okY_129) okY_130) okY_131) okY_132) okY_133) okY_134) okY_135) okY_136) okY_137) okY_138) okY_139) okY_140) okY_141) okY_142) okY_143) okY_144) okY_145) okY_146) okY_147) okY_148) okY_149
set_option maxRecDepth 100000 in
theorem okY_to_200 : ∀ M, M < 200 → okY M := lt_s (lt_s (lt_s (lt_s (lt_s (lt_s (lt_s (lt_s (lt_s (lt_s (lt_s (lt_s (lt_s (lt_s (lt_s (lt_s (lt_s (lt_s (lt_s (lt_s (lt_s (lt_s (lt_s (lt_s (lt_s (lt_s (lt_s (lt_s (lt_s (lt_s (lt_s (lt_s (lt_s (lt_s (lt_s (lt_s (lt_s (lt_s (lt_s (lt_s (lt_s (lt_s (lt_s (lt_s (lt_s (lt_s (lt_s (lt_s (lt_s (lt_s (okY_to_150) okY_150) okY_151) okY_152) okY_153) okY_154) okY_155) okY_156) okY_157) okY_158) okY_159) okY_160) okY_161) okY_162) okY_163) okY_164) okY_165) okY_166) okY_167) okY_168) okY_169) okY_170) okY_171) okY_172) okY_173) okY_174) okY_175) okY_176) okY_177) okY_178) okY_179) okY_180) okY_181) okY_182) okY_183) okY_184) okY_185) okY_186) okY_187) okY_188) okY_189) okY_190) okY_191) okY_192) okY_193) okY_194) okY_195) okY_196) okY_197) okY_198) okY_199
set_option maxRecDepth 100000 in
theorem okY_to_250 : ∀ M, M < 250 → okY M := lt_s (lt_s (lt_s (lt_s (lt_s (lt_s (lt_s (lt_s (lt_s (lt_s (lt_s (lt_s (lt_s (lt_s (lt_s (lt_s (lt_s (lt_s (lt_s (lt_s (lt_s (lt_s (lt_s (lt_s (lt_s (lt_s (lt_s (lt_s (lt_s (lt_s (lt_s (lt_s (lt_s (lt_s (lt_s (lt_s (lt_s (lt_s (lt_s (lt_s (lt_s (lt_s (lt_s (lt_s (lt_s (lt_s (lt_s (lt_s (lt_s (lt_s (okY_to_200) okY_200) okY_201) okY_202) okY_203) okY_204) okY_205) okY_206) okY_207) okY_208) okY_209) okY_210) okY_211) okY_212) okY_213) okY_214) okY_215) okY_216) okY_217) okY_218) okY_219) okY_220) okY_221) okY_222) okY_223) okY_224) okY_225) okY_226) okY_227) okY_228) okY_229) okY_230) okY_231) okY_232) okY_233) okY_234) okY_235) okY_236) okY_237) okY_238) okY_239) okY_240) okY_241) okY_242) okY_243) okY_244) okY_245) okY_246) okY_247) okY_248) okY_249
set_option maxRecDepth 100000 in
theorem okY_to_300 : ∀ M, M < 300 → okY M := lt_s (lt_s (lt_s (lt_s (lt_s (lt_s (lt_s (lt_s (lt_s (lt_s (lt_s (lt_s (lt_s (lt_s (lt_s (lt_s (lt_s (lt_s (lt_s (lt_s (lt_s (lt_s (lt_s (lt_s (lt_s (lt_s (lt_s (lt_s (lt_s (lt_s (lt_s (lt_s (lt_s (lt_s (lt_s (lt_s (lt_s (lt_s (lt_s (lt_s (lt_s (lt_s (lt_s (lt_s (lt_s (lt_s (lt_s (lt_s (lt_s (lt_s (okY_to_250) okY_250) okY_251) okY_252) okY_253) okY_254) okY_255) okY_256) okY_257) okY_258) okY_259) okY_260) okY_261) okY_262) okY_263) okY_264) okY_265) okY_266) okY_267) okY_268) okY_269) okY_270) okY_271) okY_272) okY_273) okY_274) okY_275) okY_276) okY_277) okY_278) okY_279) okY_280) okY_281) okY_282) okY_283) okY_284) okY_285) okY_286) okY_287) okY_288) okY_289) okY_290) okY_291) okY_292) okY_293) okY_294) okY_295) okY_296) okY_297) okY_298) okY_299
set_option maxRecDepth 100000 in
theorem okY_to_350 : ∀ M, M < 350 → okY M := lt_s (lt_s (lt_s (lt_s (lt_s (lt_s (lt_s (lt_s (lt_s (lt_s (lt_s (lt_s (lt_s (lt_s (lt_s (lt_s (lt_s (lt_s (lt_s (lt_s (lt_s (lt_s (lt_s (lt_s (lt_s (lt_s (lt_s (lt_s (lt_s (lt_s (lt_s (lt_s (lt_s (lt_s (lt_s (lt_s (lt_s (lt_s (lt_s (lt_s (lt_s (lt_s (lt_s (lt_s (lt_s (lt_s (lt_s (lt_s (lt_s (lt_s (okY_to_300) okY_300) okY_301) okY_302) okY_303) okY_304) okY_305) okY_306) okY_307) okY_308) okY_309) okY_310) okY_311) okY_312) okY_313) okY_314) okY_315) okY_316) okY_317) okY_318) okY_319) okY_320) okY_321) okY_322) okY_323) okY_324) okY_325) okY_326) okY_327) okY_328) okY_329) okY_330) okY_331) okY_332) okY_333) okY_334) okY_335) okY_336) okY_337) okY_338) okY_339) okY_340) okY_341) okY_342) okY_343) okY_344) okY_345) okY_346) okY_347) okY_348) okY_349
set_option maxRecDepth 100000 in
theorem okY_to_355 : ∀ M, M < 355 → okY M := lt_s (lt_s (lt_s (lt_s (lt_s (okY_to_350) okY_350) okY_351) okY_352) okY_353) okY_354
