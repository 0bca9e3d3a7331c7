/-! THE TEXT: words of the builder's members -/
set_option maxRecDepth 100000 in
theorem okT_J5_init_a7421_c : Cond.code yJ5_init_a7421 cJ5_init_a7421 5 none ∈ TG := tg 546 rfl rfl
set_option maxRecDepth 100000 in
theorem okT_J5_init_a7421_i : Cond.instanceMethod yJ5_init_a7421 ∈ TG := tg 545 rfl rfl
set_option maxRecDepth 100000 in
theorem okT_i_java_lang_AbstractStringBuilder : Cond.initialized "java/lang/AbstractStringBuilder" ∈ TG := tg 38 rfl rfl
set_option maxRecDepth 100000 in
theorem okT_J5_length_8abf5_c : Cond.code yJ5_length_8abf5 cJ5_length_8abf5 1 (some .int) ∈ TG := tg 747 rfl rfl
set_option maxRecDepth 100000 in
theorem okT_J5_length_8abf5_i : Cond.instanceMethod yJ5_length_8abf5 ∈ TG := tg 741 rfl rfl
set_option maxRecDepth 100000 in
theorem okT_J5_ensureCapacityInternal_d00df_c : Cond.code yJ5_ensureCapacityInternal_d00df cJ5_ensureCapacityInternal_d00df 3 none ∈ TG := tg 579 rfl rfl
set_option maxRecDepth 100000 in
theorem okT_J5_ensureCapacityInternal_d00df_i : Cond.instanceMethod yJ5_ensureCapacityInternal_d00df ∈ TG := tg 578 rfl rfl
set_option maxRecDepth 100000 in
theorem okT_J5_newCapacity_0f7a4_c : Cond.code yJ5_newCapacity_0f7a4 cJ5_newCapacity_0f7a4 6 (some .int) ∈ TG := tg 583 rfl rfl
set_option maxRecDepth 100000 in
theorem okT_J5_newCapacity_0f7a4_i : Cond.instanceMethod yJ5_newCapacity_0f7a4 ∈ TG := tg 582 rfl rfl
set_option maxRecDepth 100000 in
theorem okT_J5_append_cf1ce_c : Cond.code yJ5_append_cf1ce cJ5_append_cf1ce 3 (some (.object "java/lang/AbstractStringBuilder")) ∈ TG := tg 571 rfl rfl
set_option maxRecDepth 100000 in
theorem okT_J5_append_cf1ce_i : Cond.instanceMethod yJ5_append_cf1ce ∈ TG := tg 560 rfl rfl
set_option maxRecDepth 100000 in
theorem okT_J5_append_3fe6f_c : Cond.code yJ5_append_3fe6f cJ5_append_3fe6f 2 (some (.object "java/lang/AbstractStringBuilder")) ∈ TG := tg 703 rfl rfl
set_option maxRecDepth 100000 in
theorem okT_J5_append_3fe6f_i : Cond.instanceMethod yJ5_append_3fe6f ∈ TG := tg 702 rfl rfl
set_option maxRecDepth 100000 in
theorem okT_J5_append_c97b9_c : Cond.code yJ5_append_c97b9 cJ5_append_c97b9 4 (some (.object "java/lang/AbstractStringBuilder")) ∈ TG := tg 678 rfl rfl
set_option maxRecDepth 100000 in
theorem okT_J5_append_c97b9_i : Cond.instanceMethod yJ5_append_c97b9 ∈ TG := tg 677 rfl rfl
set_option maxRecDepth 100000 in
theorem okT_J5_getValue_6d5f1_c : Cond.code yJ5_getValue_6d5f1 cJ5_getValue_6d5f1 1 (some (.array .byte)) ∈ TG := tg 739 rfl rfl
set_option maxRecDepth 100000 in
theorem okT_J5_getValue_6d5f1_i : Cond.instanceMethod yJ5_getValue_6d5f1 ∈ TG := tg 736 rfl rfl
set_option maxRecDepth 100000 in
theorem okT_J5_isLatin1_aae02_c : Cond.code yJ5_isLatin1_aae02 cJ5_isLatin1_aae02 1 (some .boolean) ∈ TG := tg 610 rfl rfl
set_option maxRecDepth 100000 in
theorem okT_J5_isLatin1_aae02_i : Cond.instanceMethod yJ5_isLatin1_aae02 ∈ TG := tg 607 rfl rfl
set_option maxRecDepth 100000 in
theorem okT_J5_putStringAt_47b60_c : Cond.code yJ5_putStringAt_47b60 cJ5_putStringAt_47b60 3 none ∈ TG := tg 630 rfl rfl
set_option maxRecDepth 100000 in
theorem okT_J5_putStringAt_47b60_i : Cond.instanceMethod yJ5_putStringAt_47b60 ∈ TG := tg 629 rfl rfl
set_option maxRecDepth 100000 in
theorem okT_J5_inflateIfNeededFor_a7421_c : Cond.code yJ5_inflateIfNeededFor_a7421 cJ5_inflateIfNeededFor_a7421 2 none ∈ TG := tg 634 rfl rfl
set_option maxRecDepth 100000 in
theorem okT_J5_inflateIfNeededFor_a7421_i : Cond.instanceMethod yJ5_inflateIfNeededFor_a7421 ∈ TG := tg 633 rfl rfl
set_option maxRecDepth 100000 in
theorem okT_J4_init_a7421_c : Cond.code yJ4_init_a7421 cJ4_init_a7421 2 none ∈ TG := tg 543 rfl rfl
set_option maxRecDepth 100000 in
theorem okT_J4_init_a7421_i : Cond.instanceMethod yJ4_init_a7421 ∈ TG := tg 542 rfl rfl
set_option maxRecDepth 100000 in
theorem okT_i_java_lang_StringBuilder : Cond.initialized "java/lang/StringBuilder" ∈ TG := tg 39 rfl rfl
set_option maxRecDepth 100000 in
theorem okT_J4_append_15ec4_c : Cond.code yJ4_append_15ec4 cJ4_append_15ec4 2 (some (.object "java/lang/StringBuilder")) ∈ TG := tg 568 rfl rfl
set_option maxRecDepth 100000 in
theorem okT_J4_append_15ec4_i : Cond.instanceMethod yJ4_append_15ec4 ∈ TG := tg 566 rfl rfl
set_option maxRecDepth 100000 in
theorem okT_J4_append_cf468_c : Cond.code yJ4_append_cf468 cJ4_append_cf468 2 (some (.object "java/lang/StringBuilder")) ∈ TG := tg 700 rfl rfl
set_option maxRecDepth 100000 in
theorem okT_J4_append_cf468_i : Cond.instanceMethod yJ4_append_cf468 ∈ TG := tg 698 rfl rfl
set_option maxRecDepth 100000 in
theorem okT_J4_append_bf812_c : Cond.code yJ4_append_bf812 cJ4_append_bf812 2 (some (.object "java/lang/StringBuilder")) ∈ TG := tg 675 rfl rfl
set_option maxRecDepth 100000 in
theorem okT_J4_append_bf812_i : Cond.instanceMethod yJ4_append_bf812 ∈ TG := tg 673 rfl rfl
set_option maxRecDepth 100000 in
theorem okT_J4_toString_0e30d_c : Cond.code yJ4_toString_0e30d cJ4_toString_0e30d 1 (some (.object "java/lang/String")) ∈ TG := tg 725 rfl rfl
set_option maxRecDepth 100000 in
theorem okT_J4_toString_0e30d_i : Cond.instanceMethod yJ4_toString_0e30d ∈ TG := tg 723 rfl rfl
set_option maxRecDepth 100000 in
theorem okT_J0_init_81219_c : Cond.code yJ0_init_81219 cJ0_init_81219 2 none ∈ TG := tg 730 rfl rfl
set_option maxRecDepth 100000 in
theorem okT_J0_init_81219_i : Cond.instanceMethod yJ0_init_81219 ∈ TG := tg 729 rfl rfl
set_option maxRecDepth 100000 in
theorem okT_i_java_lang_String : Cond.initialized "java/lang/String" ∈ TG := tg 40 rfl rfl
set_option maxRecDepth 100000 in
theorem okT_J0_init_db425_c : Cond.code yJ0_init_db425 cJ0_init_db425 5 none ∈ TG := tg 733 rfl rfl
set_option maxRecDepth 100000 in
theorem okT_J0_init_db425_i : Cond.instanceMethod yJ0_init_db425 ∈ TG := tg 732 rfl rfl
set_option maxRecDepth 100000 in
theorem okT_J1_canEncode_fc78d_c : Cond.code yJ1_canEncode_fc78d cJ1_canEncode_fc78d 1 (some .boolean) ∈ TG := tg 706 rfl rfl
set_option maxRecDepth 100000 in
theorem okT_J1_canEncode_fc78d_s : Cond.static yJ1_canEncode_fc78d ∈ TG := tg 705 rfl rfl
set_option maxRecDepth 100000 in
theorem okT_i_java_lang_StringLatin1 : Cond.initialized "java/lang/StringLatin1" ∈ TG := tg 45 rfl rfl
set_option maxRecDepth 100000 in
theorem okT_J6_stringSize_0f7a4_c : Cond.code yJ6_stringSize_0f7a4 cJ6_stringSize_0f7a4 4 (some .int) ∈ TG := tg 681 rfl rfl
set_option maxRecDepth 100000 in
theorem okT_J6_stringSize_0f7a4_s : Cond.static yJ6_stringSize_0f7a4 ∈ TG := tg 680 rfl rfl
set_option maxRecDepth 100000 in
theorem okT_i_java_lang_Integer : Cond.initialized "java/lang/Integer" ∈ TG := tg 47 rfl rfl
set_option maxRecDepth 100000 in
theorem okT_J8_newLength_cabcc_c : Cond.code yJ8_newLength_cabcc cJ8_newLength_cabcc 4 (some .int) ∈ TG := tg 586 rfl rfl
set_option maxRecDepth 100000 in
theorem okT_J8_newLength_cabcc_s : Cond.static yJ8_newLength_cabcc ∈ TG := tg 585 rfl rfl
set_option maxRecDepth 100000 in
theorem okT_i_jdk_internal_util_ArraysSupport : Cond.initialized "jdk/internal/util/ArraysSupport" ∈ TG := tg 42 rfl rfl
set_option maxRecDepth 100000 in
theorem okT_J7_copyOf_9075b_c : Cond.code yJ7_copyOf_9075b cJ7_copyOf_9075b 3 (some (.array .byte)) ∈ TG := tg 596 rfl rfl
set_option maxRecDepth 100000 in
theorem okT_J7_copyOf_9075b_s : Cond.static yJ7_copyOf_9075b ∈ TG := tg 595 rfl rfl
set_option maxRecDepth 100000 in
theorem okT_i_java_util_Arrays : Cond.initialized "java/util/Arrays" ∈ TG := tg 32 rfl rfl
set_option maxRecDepth 100000 in
theorem okT_J7_copyOfRange_39247_c : Cond.code yJ7_copyOfRange_39247 cJ7_copyOfRange_39247 3 (some (.array .byte)) ∈ TG := tg 751 rfl rfl
set_option maxRecDepth 100000 in
theorem okT_J7_copyOfRange_39247_s : Cond.static yJ7_copyOfRange_39247 ∈ TG := tg 750 rfl rfl
set_option maxRecDepth 100000 in
theorem okT_J6_getChars_ba4f3_c : Cond.code yJ6_getChars_ba4f3 cJ6_getChars_ba4f3 7 (some .int) ∈ TG := tg 684 rfl rfl
set_option maxRecDepth 100000 in
theorem okT_J6_getChars_ba4f3_s : Cond.static yJ6_getChars_ba4f3 ∈ TG := tg 683 rfl rfl
set_option maxRecDepth 100000 in
theorem okT_J0_getBytes_840e7_c : Cond.code yJ0_getBytes_840e7 cJ0_getBytes_840e7 4 none ∈ TG := tg 657 rfl rfl
set_option maxRecDepth 100000 in
theorem okT_J0_getBytes_840e7_i : Cond.instanceMethod yJ0_getBytes_840e7 ∈ TG := tg 655 rfl rfl
set_option maxRecDepth 100000 in
theorem okT_J7_checkLength_df160_c : Cond.code yJ7_checkLength_df160 cJ7_checkLength_df160 2 none ∈ TG := tg 757 rfl rfl
set_option maxRecDepth 100000 in
theorem okT_J7_checkLength_df160_s : Cond.static yJ7_checkLength_df160 ∈ TG := tg 756 rfl rfl
set_option maxRecDepth 100000 in
theorem okT_J7_copyOfRangeByte_39247_c : Cond.code yJ7_copyOfRangeByte_39247 cJ7_copyOfRangeByte_39247 5 (some (.array .byte)) ∈ TG := tg 754 rfl rfl
set_option maxRecDepth 100000 in
theorem okT_J7_copyOfRangeByte_39247_s : Cond.static yJ7_copyOfRangeByte_39247 ∈ TG := tg 753 rfl rfl
set_option maxRecDepth 100000 in
theorem okT_J4_length_8abf5_c : Cond.code yJ4_length_8abf5 cJ4_length_8abf5 1 (some .int) ∈ TG := tg 745 rfl rfl
set_option maxRecDepth 100000 in
theorem okT_J4_length_8abf5_i : Cond.instanceMethod yJ4_length_8abf5 ∈ TG := tg 744 rfl rfl
set_option maxRecDepth 100000 in
theorem okT_J4_append_cf1ce_c : Cond.code yJ4_append_cf1ce cJ4_append_cf1ce 2 (some (.object "java/lang/AbstractStringBuilder")) ∈ TG := tg 564 rfl rfl
set_option maxRecDepth 100000 in
theorem okT_J4_append_cf1ce_i : Cond.instanceMethod yJ4_append_cf1ce ∈ TG := tg 563 rfl rfl
set_option maxRecDepth 100000 in
theorem okT_L_cell_c : Cond.code yL_cell cL_cell 2 (some .int) ∈ TG := tg 533 rfl rfl
set_option maxRecDepth 100000 in
theorem okT_L_cell_s : Cond.static yL_cell ∈ TG := tg 532 rfl rfl
set_option maxRecDepth 100000 in
theorem okT_i_PinBarrelLaw : Cond.initialized "PinBarrelLaw" ∈ TG := tg 27 rfl rfl
set_option maxRecDepth 100000 in
theorem okT_L_name_c : Cond.code yL_name cL_name 1 (some (.object "java/lang/String")) ∈ TG := tg 715 rfl rfl
set_option maxRecDepth 100000 in
theorem okT_L_name_s : Cond.static yL_name ∈ TG := tg 714 rfl rfl
set_option maxRecDepth 100000 in
theorem okT_L_text_c : Cond.code yL_text cL_text 6 (some (.object "java/lang/String")) ∈ TG := tg 530 rfl rfl
set_option maxRecDepth 100000 in
theorem okT_L_text_s : Cond.static yL_text ∈ TG := tg 529 rfl rfl
set_option maxRecDepth 100000 in
theorem okT_J5_ensureCapacityInternal_d00df_p : Cond.privateMethod yJ5_ensureCapacityInternal_d00df ∈ lw_tbl := List.mem_of_getElem? (i := 577) rfl
set_option maxRecDepth 100000 in
theorem okT_J5_newCapacity_0f7a4_p : Cond.privateMethod yJ5_newCapacity_0f7a4 ∈ lw_tbl := List.mem_of_getElem? (i := 581) rfl
set_option maxRecDepth 100000 in
theorem okT_J5_putStringAt_47b60_p : Cond.privateMethod yJ5_putStringAt_47b60 ∈ lw_tbl := List.mem_of_getElem? (i := 628) rfl
set_option maxRecDepth 100000 in
theorem okT_J5_inflateIfNeededFor_a7421_p : Cond.privateMethod yJ5_inflateIfNeededFor_a7421 ∈ lw_tbl := List.mem_of_getElem? (i := 632) rfl
set_option maxRecDepth 100000 in
theorem okT_n_StringBuilder : Cond.instantiable "java/lang/StringBuilder" 4 ∈ TG := tg 539 rfl rfl
set_option maxRecDepth 100000 in
theorem okT_n_String : Cond.instantiable "java/lang/String" 4 ∈ TG := tg 727 rfl rfl
set_option maxRecDepth 100000 in
theorem okT_l_PinBarrelLaw_241 : Cond.methodLink "PinBarrelLaw" 241 ⟨"PinBarrel", "<init>", "()V"⟩ ∈ TG := tg 57 rfl rfl
set_option maxRecDepth 100000 in
theorem okT_l_PinBarrelLaw_246 : Cond.methodLink "PinBarrelLaw" 246 ⟨"PinBarrelLaw", "load", "(LPinBarrel;Ljava/lang/String;)I"⟩ ∈ TG := tg 324 rfl rfl
set_option maxRecDepth 100000 in
theorem okT_l_PinBarrelLaw_14 : Cond.methodLink "PinBarrelLaw" 14 ⟨"java/lang/String", "length", "()I"⟩ ∈ TG := tg 327 rfl rfl
set_option maxRecDepth 100000 in
theorem okT_v_String_J0_length_8abf5 : Cond.selects "java/lang/String" ⟨"java/lang/String", "length", "()I"⟩ ⟨"java/lang/String", "length", "()I"⟩ ∈ TG := tg 329 rfl rfl
set_option maxRecDepth 100000 in
theorem okT_l_String_335 : Cond.methodLink "java/lang/String" 335 ⟨"java/lang/String", "coder", "()B"⟩ ∈ TG := tg 331 rfl rfl
set_option maxRecDepth 100000 in
theorem okT_v_String_J0_coder_7d493 : Cond.selects "java/lang/String" ⟨"java/lang/String", "coder", "()B"⟩ ⟨"java/lang/String", "coder", "()B"⟩ ∈ TG := tg 333 rfl rfl
set_option maxRecDepth 100000 in
theorem okT_f_String_38 : Cond.fieldLink "java/lang/String" 38 "java/lang/String" "COMPACT_STRINGS" "Z" ∈ TG := tg 335 rfl rfl
set_option maxRecDepth 100000 in
theorem okT_l_PinBarrelLaw_20 : Cond.methodLink "PinBarrelLaw" 20 ⟨"java/lang/String", "charAt", "(I)C"⟩ ∈ TG := tg 337 rfl rfl
set_option maxRecDepth 100000 in
theorem okT_v_String_J0_charAt_5068e : Cond.selects "java/lang/String" ⟨"java/lang/String", "charAt", "(I)C"⟩ ⟨"java/lang/String", "charAt", "(I)C"⟩ ∈ TG := tg 339 rfl rfl
set_option maxRecDepth 100000 in
theorem okT_l_String_492 : Cond.methodLink "java/lang/String" 492 ⟨"java/lang/String", "isLatin1", "()Z"⟩ ∈ TG := tg 341 rfl rfl
set_option maxRecDepth 100000 in
theorem okT_v_String_J0_isLatin1_aae02 : Cond.selects "java/lang/String" ⟨"java/lang/String", "isLatin1", "()Z"⟩ ⟨"java/lang/String", "isLatin1", "()Z"⟩ ∈ TG := tg 343 rfl rfl
set_option maxRecDepth 100000 in
theorem okT_l_String_495 : Cond.methodLink "java/lang/String" 495 ⟨"java/lang/StringLatin1", "charAt", "([BI)C"⟩ ∈ TG := tg 345 rfl rfl
set_option maxRecDepth 100000 in
theorem okT_l_StringLatin1_9 : Cond.methodLink "java/lang/StringLatin1" 9 ⟨"java/lang/String", "checkIndex", "(II)V"⟩ ∈ TG := tg 348 rfl rfl
set_option maxRecDepth 100000 in
theorem okT_f_String_1053 : Cond.fieldLink "java/lang/String" 1053 "jdk/internal/util/Preconditions" "SIOOBE_FORMATTER" "Ljava/util/function/BiFunction;" ∈ TG := tg 351 rfl rfl
set_option maxRecDepth 100000 in
theorem okT_l_String_1059 : Cond.methodLink "java/lang/String" 1059 ⟨"jdk/internal/util/Preconditions", "checkIndex", "(IILjava/util/function/BiFunction;)I"⟩ ∈ TG := tg 353 rfl rfl
set_option maxRecDepth 100000 in
theorem okT_l_String_498 : Cond.methodLink "java/lang/String" 498 ⟨"java/lang/StringUTF16", "charAt", "([BI)C"⟩ ∈ TG := tg 356 rfl rfl
set_option maxRecDepth 100000 in
theorem okT_l_StringUTF16_67 : Cond.methodLink "java/lang/StringUTF16" 67 ⟨"java/lang/StringUTF16", "checkIndex", "(I[B)V"⟩ ∈ TG := tg 359 rfl rfl
set_option maxRecDepth 100000 in
theorem okT_l_StringUTF16_48 : Cond.methodLink "java/lang/StringUTF16" 48 ⟨"java/lang/StringUTF16", "length", "([B)I"⟩ ∈ TG := tg 362 rfl rfl
set_option maxRecDepth 100000 in
theorem okT_l_StringUTF16_414 : Cond.methodLink "java/lang/StringUTF16" 414 ⟨"java/lang/String", "checkIndex", "(II)V"⟩ ∈ TG := tg 365 rfl rfl
set_option maxRecDepth 100000 in
theorem okT_l_StringUTF16_71 : Cond.methodLink "java/lang/StringUTF16" 71 ⟨"java/lang/StringUTF16", "getChar", "([BI)C"⟩ ∈ TG := tg 366 rfl rfl
set_option maxRecDepth 100000 in
theorem okT_f_StringUTF16_44 : Cond.fieldLink "java/lang/StringUTF16" 44 "java/lang/StringUTF16" "$assertionsDisabled" "Z" ∈ TG := tg 369 rfl rfl
set_option maxRecDepth 100000 in
theorem okT_f_StringUTF16_59 : Cond.fieldLink "java/lang/StringUTF16" 59 "java/lang/StringUTF16" "HI_BYTE_SHIFT" "I" ∈ TG := tg 371 rfl rfl
set_option maxRecDepth 100000 in
theorem okT_f_StringUTF16_63 : Cond.fieldLink "java/lang/StringUTF16" 63 "java/lang/StringUTF16" "LO_BYTE_SHIFT" "I" ∈ TG := tg 373 rfl rfl
set_option maxRecDepth 100000 in
theorem okT_l_PinBarrelLaw_24 : Cond.methodLink "PinBarrelLaw" 24 ⟨"PinBarrel", "append", "(J)I"⟩ ∈ TG := tg 375 rfl rfl
set_option maxRecDepth 100000 in
theorem okT_l_PinBarrelLaw_30 : Cond.methodLink "PinBarrelLaw" 30 ⟨"PinBarrel", "load", "()I"⟩ ∈ TG := tg 384 rfl rfl
set_option maxRecDepth 100000 in
theorem okT_l_PinBarrelLaw_242 : Cond.methodLink "PinBarrelLaw" 242 ⟨"PinBarrelLaw", "text", "([I)Ljava/lang/String;"⟩ ∈ TG := tg 528 rfl rfl
set_option maxRecDepth 100000 in
theorem okT_l_PinBarrelLaw_41 : Cond.methodLink "PinBarrelLaw" 41 ⟨"PinBarrelLaw", "cell", "([II)I"⟩ ∈ TG := tg 531 rfl rfl
set_option maxRecDepth 100000 in
theorem okT_k_PinBarrelLaw_7 : Cond.constant "PinBarrelLaw" 7 (100000) ∈ TG := tg 534 rfl rfl
set_option maxRecDepth 100000 in
theorem okT_l_PinBarrelLaw_8 : Cond.methodLink "PinBarrelLaw" 8 ⟨"java/lang/Math", "abs", "(I)I"⟩ ∈ TG := tg 535 rfl rfl
set_option maxRecDepth 100000 in
theorem okT_l_PinBarrelLaw_51 : Cond.methodLink "PinBarrelLaw" 51 ⟨"java/lang/StringBuilder", "<init>", "(Ljava/lang/String;)V"⟩ ∈ TG := tg 541 rfl rfl
set_option maxRecDepth 100000 in
theorem okT_l_StringBuilder_7 : Cond.methodLink "java/lang/StringBuilder" 7 ⟨"java/lang/AbstractStringBuilder", "<init>", "(Ljava/lang/String;)V"⟩ ∈ TG := tg 544 rfl rfl
set_option maxRecDepth 100000 in
theorem okT_l_AbstractStringBuilder_3 : Cond.methodLink "java/lang/AbstractStringBuilder" 3 ⟨"java/lang/Object", "<init>", "()V"⟩ ∈ TG := tg 547 rfl rfl
set_option maxRecDepth 100000 in
theorem okT_l_AbstractStringBuilder_32 : Cond.methodLink "java/lang/AbstractStringBuilder" 32 ⟨"java/lang/String", "length", "()I"⟩ ∈ TG := tg 548 rfl rfl
set_option maxRecDepth 100000 in
theorem okT_k_AbstractStringBuilder_38 : Cond.constant "java/lang/AbstractStringBuilder" 38 (2147483631) ∈ TG := tg 549 rfl rfl
set_option maxRecDepth 100000 in
theorem okT_k_AbstractStringBuilder_39 : Cond.constant "java/lang/AbstractStringBuilder" 39 (2147483647) ∈ TG := tg 550 rfl rfl
set_option maxRecDepth 100000 in
theorem okT_l_AbstractStringBuilder_40 : Cond.methodLink "java/lang/AbstractStringBuilder" 40 ⟨"java/lang/String", "coder", "()B"⟩ ∈ TG := tg 551 rfl rfl
set_option maxRecDepth 100000 in
theorem okT_l_AbstractStringBuilder_26 : Cond.methodLink "java/lang/AbstractStringBuilder" 26 ⟨"java/lang/StringUTF16", "newBytesFor", "(I)[B"⟩ ∈ TG := tg 552 rfl rfl
set_option maxRecDepth 100000 in
theorem okT_l_StringUTF16_11 : Cond.methodLink "java/lang/StringUTF16" 11 ⟨"java/lang/StringUTF16", "newBytesLength", "(I)I"⟩ ∈ TG := tg 555 rfl rfl
set_option maxRecDepth 100000 in
theorem okT_k_StringUTF16_20 : Cond.constant "java/lang/StringUTF16" 20 (1073741823) ∈ TG := tg 558 rfl rfl
set_option maxRecDepth 100000 in
theorem okT_l_AbstractStringBuilder_43 : Cond.methodLink "java/lang/AbstractStringBuilder" 43 ⟨"java/lang/AbstractStringBuilder", "append", "(Ljava/lang/String;)Ljava/lang/AbstractStringBuilder;"⟩ ∈ TG := tg 559 rfl rfl
set_option maxRecDepth 100000 in
theorem okT_m_J5_append_cf1ce : Cond.sameMethod "java/lang/AbstractStringBuilder" "java/lang/AbstractStringBuilder" "append" "(Ljava/lang/String;)Ljava/lang/AbstractStringBuilder;" ∈ TG := tg 561 rfl rfl
set_option maxRecDepth 100000 in
theorem okT_v_StringBuilder_J4_append_cf1ce : Cond.selects "java/lang/StringBuilder" ⟨"java/lang/AbstractStringBuilder", "append", "(Ljava/lang/String;)Ljava/lang/AbstractStringBuilder;"⟩ ⟨"java/lang/StringBuilder", "append", "(Ljava/lang/String;)Ljava/lang/AbstractStringBuilder;"⟩ ∈ TG := tg 562 rfl rfl
set_option maxRecDepth 100000 in
theorem okT_l_StringBuilder_23 : Cond.methodLink "java/lang/StringBuilder" 23 ⟨"java/lang/StringBuilder", "append", "(Ljava/lang/String;)Ljava/lang/StringBuilder;"⟩ ∈ TG := tg 565 rfl rfl
set_option maxRecDepth 100000 in
theorem okT_v_StringBuilder_J4_append_15ec4 : Cond.selects "java/lang/StringBuilder" ⟨"java/lang/StringBuilder", "append", "(Ljava/lang/String;)Ljava/lang/StringBuilder;"⟩ ⟨"java/lang/StringBuilder", "append", "(Ljava/lang/String;)Ljava/lang/StringBuilder;"⟩ ∈ TG := tg 567 rfl rfl
set_option maxRecDepth 100000 in
theorem okT_l_StringBuilder_29 : Cond.methodLink "java/lang/StringBuilder" 29 ⟨"java/lang/AbstractStringBuilder", "append", "(Ljava/lang/String;)Ljava/lang/AbstractStringBuilder;"⟩ ∈ TG := tg 569 rfl rfl
set_option maxRecDepth 100000 in
theorem okT_u_StringBuilder : Cond.superclass "java/lang/StringBuilder" "java/lang/AbstractStringBuilder" ∈ TG := tg 570 rfl rfl
set_option maxRecDepth 100000 in
theorem okT_l_AbstractStringBuilder_204 : Cond.methodLink "java/lang/AbstractStringBuilder" 204 ⟨"java/lang/AbstractStringBuilder", "appendNull", "()Ljava/lang/AbstractStringBuilder;"⟩ ∈ TG := tg 572 rfl rfl
set_option maxRecDepth 100000 in
theorem okT_l_AbstractStringBuilder_100 : Cond.methodLink "java/lang/AbstractStringBuilder" 100 ⟨"java/lang/AbstractStringBuilder", "ensureCapacityInternal", "(I)V"⟩ ∈ TG := tg 576 rfl rfl
set_option maxRecDepth 100000 in
theorem okT_l_AbstractStringBuilder_104 : Cond.methodLink "java/lang/AbstractStringBuilder" 104 ⟨"java/lang/AbstractStringBuilder", "newCapacity", "(I)I"⟩ ∈ TG := tg 580 rfl rfl
set_option maxRecDepth 100000 in
theorem okT_l_AbstractStringBuilder_114 : Cond.methodLink "java/lang/AbstractStringBuilder" 114 ⟨"jdk/internal/util/ArraysSupport", "newLength", "(III)I"⟩ ∈ TG := tg 584 rfl rfl
set_option maxRecDepth 100000 in
theorem okT_l_ArraysSupport_194 : Cond.methodLink "jdk/internal/util/ArraysSupport" 194 ⟨"java/lang/Math", "max", "(II)I"⟩ ∈ TG := tg 587 rfl rfl
set_option maxRecDepth 100000 in
theorem okT_k_ArraysSupport_200 : Cond.constant "jdk/internal/util/ArraysSupport" 200 (2147483639) ∈ TG := tg 590 rfl rfl
set_option maxRecDepth 100000 in
theorem okT_l_ArraysSupport_201 : Cond.methodLink "jdk/internal/util/ArraysSupport" 201 ⟨"jdk/internal/util/ArraysSupport", "hugeLength", "(II)I"⟩ ∈ TG := tg 591 rfl rfl
set_option maxRecDepth 100000 in
theorem okT_l_AbstractStringBuilder_108 : Cond.methodLink "java/lang/AbstractStringBuilder" 108 ⟨"java/util/Arrays", "copyOf", "([BI)[B"⟩ ∈ TG := tg 594 rfl rfl
set_option maxRecDepth 100000 in
theorem okT_l_Arrays_310 : Cond.methodLink "java/util/Arrays" 310 ⟨"[B", "clone", "()Ljava/lang/Object;"⟩ ∈ TG := tg 597 rfl rfl
set_option maxRecDepth 100000 in
theorem okT_l_Arrays_304 : Cond.methodLink "java/util/Arrays" 304 ⟨"java/lang/Math", "min", "(II)I"⟩ ∈ TG := tg 604 rfl rfl
set_option maxRecDepth 100000 in
theorem okT_l_Arrays_150 : Cond.methodLink "java/util/Arrays" 150 ⟨"java/lang/System", "arraycopy", "(Ljava/lang/Object;ILjava/lang/Object;II)V"⟩ ∈ TG := tg 605 rfl rfl
set_option maxRecDepth 100000 in
theorem okT_l_AbstractStringBuilder_83 : Cond.methodLink "java/lang/AbstractStringBuilder" 83 ⟨"java/lang/AbstractStringBuilder", "isLatin1", "()Z"⟩ ∈ TG := tg 606 rfl rfl
set_option maxRecDepth 100000 in
theorem okT_m_J5_isLatin1_aae02 : Cond.sameMethod "java/lang/AbstractStringBuilder" "java/lang/AbstractStringBuilder" "isLatin1" "()Z" ∈ TG := tg 608 rfl rfl
set_option maxRecDepth 100000 in
theorem okT_v_StringBuilder_J5_isLatin1_aae02 : Cond.selects "java/lang/StringBuilder" ⟨"java/lang/AbstractStringBuilder", "isLatin1", "()Z"⟩ ⟨"java/lang/AbstractStringBuilder", "isLatin1", "()Z"⟩ ∈ TG := tg 609 rfl rfl
set_option maxRecDepth 100000 in
theorem okT_f_AbstractStringBuilder_18 : Cond.fieldLink "java/lang/AbstractStringBuilder" 18 "java/lang/String" "COMPACT_STRINGS" "Z" ∈ TG := tg 611 rfl rfl
set_option maxRecDepth 100000 in
theorem okT_l_AbstractStringBuilder_226 : Cond.methodLink "java/lang/AbstractStringBuilder" 226 ⟨"java/lang/StringUTF16", "putCharsAt", "([BICCCC)I"⟩ ∈ TG := tg 612 rfl rfl
set_option maxRecDepth 100000 in
theorem okT_l_StringUTF16_96 : Cond.methodLink "java/lang/StringUTF16" 96 ⟨"java/lang/StringUTF16", "checkBoundsBeginEnd", "(II[B)V"⟩ ∈ TG := tg 615 rfl rfl
set_option maxRecDepth 100000 in
theorem okT_l_StringUTF16_241 : Cond.methodLink "java/lang/StringUTF16" 241 ⟨"java/lang/String", "checkBoundsBeginEnd", "(III)V"⟩ ∈ TG := tg 618 rfl rfl
set_option maxRecDepth 100000 in
theorem okT_l_String_1062 : Cond.methodLink "java/lang/String" 1062 ⟨"jdk/internal/util/Preconditions", "checkFromToIndex", "(IIILjava/util/function/BiFunction;)I"⟩ ∈ TG := tg 621 rfl rfl
set_option maxRecDepth 100000 in
theorem okT_l_StringUTF16_111 : Cond.methodLink "java/lang/StringUTF16" 111 ⟨"java/lang/StringUTF16", "putChar", "([BII)V"⟩ ∈ TG := tg 624 rfl rfl
set_option maxRecDepth 100000 in
theorem okT_l_AbstractStringBuilder_208 : Cond.methodLink "java/lang/AbstractStringBuilder" 208 ⟨"java/lang/AbstractStringBuilder", "putStringAt", "(ILjava/lang/String;)V"⟩ ∈ TG := tg 627 rfl rfl
set_option maxRecDepth 100000 in
theorem okT_l_AbstractStringBuilder_397 : Cond.methodLink "java/lang/AbstractStringBuilder" 397 ⟨"java/lang/AbstractStringBuilder", "inflateIfNeededFor", "(Ljava/lang/String;)V"⟩ ∈ TG := tg 631 rfl rfl
set_option maxRecDepth 100000 in
theorem okT_l_AbstractStringBuilder_195 : Cond.methodLink "java/lang/AbstractStringBuilder" 195 ⟨"java/lang/AbstractStringBuilder", "inflate", "()V"⟩ ∈ TG := tg 635 rfl rfl
set_option maxRecDepth 100000 in
theorem okT_l_AbstractStringBuilder_125 : Cond.methodLink "java/lang/AbstractStringBuilder" 125 ⟨"java/lang/StringLatin1", "inflate", "([BI[BII)V"⟩ ∈ TG := tg 639 rfl rfl
set_option maxRecDepth 100000 in
theorem okT_l_StringLatin1_240 : Cond.methodLink "java/lang/StringLatin1" 240 ⟨"java/lang/StringUTF16", "inflate", "([BI[BII)V"⟩ ∈ TG := tg 642 rfl rfl
set_option maxRecDepth 100000 in
theorem okT_l_StringUTF16_173 : Cond.methodLink "java/lang/StringUTF16" 173 ⟨"java/lang/StringUTF16", "checkBoundsOffCount", "(II[B)V"⟩ ∈ TG := tg 645 rfl rfl
set_option maxRecDepth 100000 in
theorem okT_l_StringUTF16_419 : Cond.methodLink "java/lang/StringUTF16" 419 ⟨"java/lang/String", "checkBoundsOffCount", "(III)I"⟩ ∈ TG := tg 648 rfl rfl
set_option maxRecDepth 100000 in
theorem okT_l_String_1065 : Cond.methodLink "java/lang/String" 1065 ⟨"jdk/internal/util/Preconditions", "checkFromIndexSize", "(IIILjava/util/function/BiFunction;)I"⟩ ∈ TG := tg 651 rfl rfl
set_option maxRecDepth 100000 in
theorem okT_l_AbstractStringBuilder_399 : Cond.methodLink "java/lang/AbstractStringBuilder" 399 ⟨"java/lang/String", "getBytes", "([BIB)V"⟩ ∈ TG := tg 654 rfl rfl
set_option maxRecDepth 100000 in
theorem okT_v_String_J0_getBytes_840e7 : Cond.selects "java/lang/String" ⟨"java/lang/String", "getBytes", "([BIB)V"⟩ ⟨"java/lang/String", "getBytes", "([BIB)V"⟩ ∈ TG := tg 656 rfl rfl
set_option maxRecDepth 100000 in
theorem okT_l_String_212 : Cond.methodLink "java/lang/String" 212 ⟨"java/lang/System", "arraycopy", "(Ljava/lang/Object;ILjava/lang/Object;II)V"⟩ ∈ TG := tg 658 rfl rfl
set_option maxRecDepth 100000 in
theorem okT_l_String_106 : Cond.methodLink "java/lang/String" 106 ⟨"java/lang/StringLatin1", "inflate", "([BI[BII)V"⟩ ∈ TG := tg 659 rfl rfl
set_option maxRecDepth 100000 in
theorem okT_f_AbstractStringBuilder_15 : Cond.fieldLink "java/lang/AbstractStringBuilder" 15 "java/lang/AbstractStringBuilder" "value" "[B" ∈ TG := tg 660 rfl rfl
set_option maxRecDepth 100000 in
theorem okT_f_AbstractStringBuilder_22 : Cond.fieldLink "java/lang/AbstractStringBuilder" 22 "java/lang/AbstractStringBuilder" "coder" "B" ∈ TG := tg 661 rfl rfl
set_option maxRecDepth 100000 in
theorem okT_f_String_1048 : Cond.fieldLink "java/lang/String" 1048 "java/lang/AbstractStringBuilder" "maybeLatin1" "Z" ∈ TG := tg 662 rfl rfl
set_option maxRecDepth 100000 in
theorem okT_f_AbstractStringBuilder_79 : Cond.fieldLink "java/lang/AbstractStringBuilder" 79 "java/lang/AbstractStringBuilder" "count" "I" ∈ TG := tg 663 rfl rfl
set_option maxRecDepth 100000 in
theorem okT_l_PinBarrelLaw_54 : Cond.methodLink "PinBarrelLaw" 54 ⟨"java/lang/StringBuilder", "append", "(I)Ljava/lang/StringBuilder;"⟩ ∈ TG := tg 672 rfl rfl
set_option maxRecDepth 100000 in
theorem okT_v_StringBuilder_J4_append_bf812 : Cond.selects "java/lang/StringBuilder" ⟨"java/lang/StringBuilder", "append", "(I)Ljava/lang/StringBuilder;"⟩ ⟨"java/lang/StringBuilder", "append", "(I)Ljava/lang/StringBuilder;"⟩ ∈ TG := tg 674 rfl rfl
set_option maxRecDepth 100000 in
theorem okT_l_StringBuilder_53 : Cond.methodLink "java/lang/StringBuilder" 53 ⟨"java/lang/AbstractStringBuilder", "append", "(I)Ljava/lang/AbstractStringBuilder;"⟩ ∈ TG := tg 676 rfl rfl
set_option maxRecDepth 100000 in
theorem okT_l_AbstractStringBuilder_245 : Cond.methodLink "java/lang/AbstractStringBuilder" 245 ⟨"java/lang/Integer", "stringSize", "(I)I"⟩ ∈ TG := tg 679 rfl rfl
set_option maxRecDepth 100000 in
theorem okT_l_AbstractStringBuilder_248 : Cond.methodLink "java/lang/AbstractStringBuilder" 248 ⟨"java/lang/Integer", "getChars", "(II[B)I"⟩ ∈ TG := tg 682 rfl rfl
set_option maxRecDepth 100000 in
theorem okT_f_Integer_83 : Cond.fieldLink "java/lang/Integer" 83 "java/lang/Integer" "DigitOnes" "[B" ∈ TG := tg 685 rfl rfl
set_option maxRecDepth 100000 in
theorem okT_f_Integer_87 : Cond.fieldLink "java/lang/Integer" 87 "java/lang/Integer" "DigitTens" "[B" ∈ TG := tg 687 rfl rfl
set_option maxRecDepth 100000 in
theorem okT_l_AbstractStringBuilder_251 : Cond.methodLink "java/lang/AbstractStringBuilder" 251 ⟨"java/lang/StringUTF16", "getChars", "(III[B)I"⟩ ∈ TG := tg 689 rfl rfl
set_option maxRecDepth 100000 in
theorem okT_l_StringUTF16_393 : Cond.methodLink "java/lang/StringUTF16" 393 ⟨"java/lang/StringUTF16", "getChars", "(II[B)I"⟩ ∈ TG := tg 692 rfl rfl
set_option maxRecDepth 100000 in
theorem okT_f_StringUTF16_403 : Cond.fieldLink "java/lang/StringUTF16" 403 "java/lang/Integer" "DigitOnes" "[B" ∈ TG := tg 695 rfl rfl
set_option maxRecDepth 100000 in
theorem okT_f_StringUTF16_407 : Cond.fieldLink "java/lang/StringUTF16" 407 "java/lang/Integer" "DigitTens" "[B" ∈ TG := tg 696 rfl rfl
set_option maxRecDepth 100000 in
theorem okT_l_PinBarrelLaw_57 : Cond.methodLink "PinBarrelLaw" 57 ⟨"java/lang/StringBuilder", "append", "(C)Ljava/lang/StringBuilder;"⟩ ∈ TG := tg 697 rfl rfl
set_option maxRecDepth 100000 in
theorem okT_v_StringBuilder_J4_append_cf468 : Cond.selects "java/lang/StringBuilder" ⟨"java/lang/StringBuilder", "append", "(C)Ljava/lang/StringBuilder;"⟩ ⟨"java/lang/StringBuilder", "append", "(C)Ljava/lang/StringBuilder;"⟩ ∈ TG := tg 699 rfl rfl
set_option maxRecDepth 100000 in
theorem okT_l_StringBuilder_50 : Cond.methodLink "java/lang/StringBuilder" 50 ⟨"java/lang/AbstractStringBuilder", "append", "(C)Ljava/lang/AbstractStringBuilder;"⟩ ∈ TG := tg 701 rfl rfl
set_option maxRecDepth 100000 in
theorem okT_l_AbstractStringBuilder_191 : Cond.methodLink "java/lang/AbstractStringBuilder" 191 ⟨"java/lang/StringLatin1", "canEncode", "(C)Z"⟩ ∈ TG := tg 704 rfl rfl
set_option maxRecDepth 100000 in
theorem okT_l_AbstractStringBuilder_197 : Cond.methodLink "java/lang/AbstractStringBuilder" 197 ⟨"java/lang/StringUTF16", "putCharSB", "([BII)V"⟩ ∈ TG := tg 707 rfl rfl
set_option maxRecDepth 100000 in
theorem okT_l_PinBarrelLaw_62 : Cond.methodLink "PinBarrelLaw" 62 ⟨"java/lang/StringBuilder", "append", "(Ljava/lang/String;)Ljava/lang/StringBuilder;"⟩ ∈ TG := tg 711 rfl rfl
set_option maxRecDepth 100000 in
theorem okT_l_PinBarrelLaw_67 : Cond.methodLink "PinBarrelLaw" 67 ⟨"PinBarrelLaw", "name", "(I)Ljava/lang/String;"⟩ ∈ TG := tg 713 rfl rfl
set_option maxRecDepth 100000 in
theorem okT_l_PinBarrelLaw_75 : Cond.methodLink "PinBarrelLaw" 75 ⟨"java/lang/StringBuilder", "toString", "()Ljava/lang/String;"⟩ ∈ TG := tg 722 rfl rfl
set_option maxRecDepth 100000 in
theorem okT_v_StringBuilder_J4_toString_0e30d : Cond.selects "java/lang/StringBuilder" ⟨"java/lang/StringBuilder", "toString", "()Ljava/lang/String;"⟩ ⟨"java/lang/StringBuilder", "toString", "()Ljava/lang/String;"⟩ ∈ TG := tg 724 rfl rfl
set_option maxRecDepth 100000 in
theorem okT_l_StringBuilder_137 : Cond.methodLink "java/lang/StringBuilder" 137 ⟨"java/lang/String", "<init>", "(Ljava/lang/StringBuilder;)V"⟩ ∈ TG := tg 728 rfl rfl
set_option maxRecDepth 100000 in
theorem okT_l_String_489 : Cond.methodLink "java/lang/String" 489 ⟨"java/lang/String", "<init>", "(Ljava/lang/AbstractStringBuilder;Ljava/lang/Void;)V"⟩ ∈ TG := tg 731 rfl rfl
set_option maxRecDepth 100000 in
theorem okT_l_String_1 : Cond.methodLink "java/lang/String" 1 ⟨"java/lang/Object", "<init>", "()V"⟩ ∈ TG := tg 734 rfl rfl
set_option maxRecDepth 100000 in
theorem okT_l_String_552 : Cond.methodLink "java/lang/String" 552 ⟨"java/lang/AbstractStringBuilder", "getValue", "()[B"⟩ ∈ TG := tg 735 rfl rfl
set_option maxRecDepth 100000 in
theorem okT_m_J5_getValue_6d5f1 : Cond.sameMethod "java/lang/AbstractStringBuilder" "java/lang/AbstractStringBuilder" "getValue" "()[B" ∈ TG := tg 737 rfl rfl
set_option maxRecDepth 100000 in
theorem okT_v_StringBuilder_J5_getValue_6d5f1 : Cond.selects "java/lang/StringBuilder" ⟨"java/lang/AbstractStringBuilder", "getValue", "()[B"⟩ ⟨"java/lang/AbstractStringBuilder", "getValue", "()[B"⟩ ∈ TG := tg 738 rfl rfl
set_option maxRecDepth 100000 in
theorem okT_l_String_549 : Cond.methodLink "java/lang/String" 549 ⟨"java/lang/AbstractStringBuilder", "length", "()I"⟩ ∈ TG := tg 740 rfl rfl
set_option maxRecDepth 100000 in
theorem okT_m_J5_length_8abf5 : Cond.sameMethod "java/lang/AbstractStringBuilder" "java/lang/AbstractStringBuilder" "length" "()I" ∈ TG := tg 742 rfl rfl
set_option maxRecDepth 100000 in
theorem okT_v_StringBuilder_J4_length_8abf5 : Cond.selects "java/lang/StringBuilder" ⟨"java/lang/AbstractStringBuilder", "length", "()I"⟩ ⟨"java/lang/StringBuilder", "length", "()I"⟩ ∈ TG := tg 743 rfl rfl
set_option maxRecDepth 100000 in
theorem okT_l_StringBuilder_343 : Cond.methodLink "java/lang/StringBuilder" 343 ⟨"java/lang/AbstractStringBuilder", "length", "()I"⟩ ∈ TG := tg 746 rfl rfl
set_option maxRecDepth 100000 in
theorem okT_l_String_1047 : Cond.methodLink "java/lang/String" 1047 ⟨"java/lang/AbstractStringBuilder", "isLatin1", "()Z"⟩ ∈ TG := tg 748 rfl rfl
set_option maxRecDepth 100000 in
theorem okT_l_String_54 : Cond.methodLink "java/lang/String" 54 ⟨"java/util/Arrays", "copyOfRange", "([BII)[B"⟩ ∈ TG := tg 749 rfl rfl
set_option maxRecDepth 100000 in
theorem okT_l_Arrays_339 : Cond.methodLink "java/util/Arrays" 339 ⟨"java/util/Arrays", "copyOfRangeByte", "([BII)[B"⟩ ∈ TG := tg 752 rfl rfl
set_option maxRecDepth 100000 in
theorem okT_l_Arrays_343 : Cond.methodLink "java/util/Arrays" 343 ⟨"java/util/Arrays", "checkLength", "(II)V"⟩ ∈ TG := tg 755 rfl rfl
set_option maxRecDepth 100000 in
theorem okT_l_String_1051 : Cond.methodLink "java/lang/String" 1051 ⟨"java/lang/StringUTF16", "compress", "([BII)[B"⟩ ∈ TG := tg 758 rfl rfl
set_option maxRecDepth 100000 in
theorem okT_l_StringUTF16_123 : Cond.methodLink "java/lang/StringUTF16" 123 ⟨"java/lang/StringUTF16", "compress", "([BI[BII)I"⟩ ∈ TG := tg 761 rfl rfl
set_option maxRecDepth 100000 in
theorem okT_l_StringUTF16_126 : Cond.methodLink "java/lang/StringUTF16" 126 ⟨"java/util/Arrays", "copyOfRange", "([BII)[B"⟩ ∈ TG := tg 764 rfl rfl
set_option maxRecDepth 100000 in
theorem okT_l_String_47 : Cond.methodLink "java/lang/String" 47 ⟨"java/lang/StringUTF16", "coderFromArrayLen", "([BI)B"⟩ ∈ TG := tg 765 rfl rfl
set_option maxRecDepth 100000 in
theorem okT_f_String_9 : Cond.fieldLink "java/lang/String" 9 "java/lang/String" "value" "[B" ∈ TG := tg 768 rfl rfl
set_option maxRecDepth 100000 in
theorem okT_f_String_15 : Cond.fieldLink "java/lang/String" 15 "java/lang/String" "coder" "B" ∈ TG := tg 769 rfl rfl
set_option maxRecDepth 100000 in
theorem okT_u_String : Cond.superclass "java/lang/String" "java/lang/Object" ∈ TG := tg 778 rfl rfl
set_option maxRecDepth 100000 in
theorem okT_l_PinBarrelLaw_249 : Cond.methodLink "PinBarrelLaw" 249 ⟨"PinBarrelLaw", "step", "(LPinBarrel;[II)V"⟩ ∈ TG := tg 779 rfl rfl
set_option maxRecDepth 100000 in
theorem okT_l_PinBarrelLaw_79 : Cond.methodLink "PinBarrelLaw" 79 ⟨"PinBarrel", "size", "(I)I"⟩ ∈ TG := tg 782 rfl rfl
set_option maxRecDepth 100000 in
theorem okT_l_PinBarrelLaw_82 : Cond.methodLink "PinBarrelLaw" 82 ⟨"PinBarrel", "setPin", "(IIIZ)Z"⟩ ∈ TG := tg 885 rfl rfl
set_option maxRecDepth 100000 in
theorem okT_l_PinBarrelLaw_86 : Cond.methodLink "PinBarrelLaw" 86 ⟨"PinBarrelLaw", "pitch", "(I)I"⟩ ∈ TG := tg 935 rfl rfl
set_option maxRecDepth 100000 in
theorem okT_l_PinBarrelLaw_89 : Cond.methodLink "PinBarrelLaw" 89 ⟨"PinBarrel", "addNote", "(III)I"⟩ ∈ TG := tg 938 rfl rfl
set_option maxRecDepth 100000 in
theorem okT_l_PinBarrelLaw_93 : Cond.methodLink "PinBarrelLaw" 93 ⟨"PinBarrel", "dropNote", "(I)I"⟩ ∈ TG := tg 947 rfl rfl
set_option maxRecDepth 100000 in
theorem okT_l_PinBarrelLaw_96 : Cond.methodLink "PinBarrelLaw" 96 ⟨"PinBarrel", "addTooth", "(II)I"⟩ ∈ TG := tg 960 rfl rfl
set_option maxRecDepth 100000 in
theorem okT_l_PinBarrelLaw_100 : Cond.methodLink "PinBarrelLaw" 100 ⟨"PinBarrel", "setRest", "(II)I"⟩ ∈ TG := tg 965 rfl rfl
set_option maxRecDepth 100000 in
theorem okT_l_PinBarrelLaw_103 : Cond.methodLink "PinBarrelLaw" 103 ⟨"PinBarrel", "retune", "(II)I"⟩ ∈ TG := tg 969 rfl rfl
set_option maxRecDepth 100000 in
theorem okT_l_PinBarrelLaw_106 : Cond.methodLink "PinBarrelLaw" 106 ⟨"PinBarrel", "lay", "(I)I"⟩ ∈ TG := tg 973 rfl rfl
set_option maxRecDepth 100000 in
theorem okT_l_PinBarrelLaw_109 : Cond.methodLink "PinBarrelLaw" 109 ⟨"PinBarrel", "turn", "(II)I"⟩ ∈ TG := tg 1034 rfl rfl
set_option maxRecDepth 100000 in
theorem okT_l_PinBarrelLaw_112 : Cond.methodLink "PinBarrelLaw" 112 ⟨"PinBarrel", "reverse", "(I)I"⟩ ∈ TG := tg 1050 rfl rfl
set_option maxRecDepth 100000 in
theorem okT_l_PinBarrelLaw_115 : Cond.methodLink "PinBarrelLaw" 115 ⟨"PinBarrel", "transpose", "(II)I"⟩ ∈ TG := tg 1066 rfl rfl
set_option maxRecDepth 100000 in
theorem okT_l_PinBarrelLaw_118 : Cond.methodLink "PinBarrelLaw" 118 ⟨"PinBarrel", "setSpeed", "(I)I"⟩ ∈ TG := tg 1082 rfl rfl
set_option maxRecDepth 100000 in
theorem okT_l_PinBarrelLaw_121 : Cond.methodLink "PinBarrelLaw" 121 ⟨"PinBarrel", "setGap", "(I)I"⟩ ∈ TG := tg 1086 rfl rfl
set_option maxRecDepth 100000 in
theorem okT_l_PinBarrelLaw_124 : Cond.methodLink "PinBarrelLaw" 124 ⟨"PinBarrel", "shift", "(I)I"⟩ ∈ TG := tg 1090 rfl rfl
set_option maxRecDepth 100000 in
theorem okT_l_PinBarrelLaw_127 : Cond.methodLink "PinBarrelLaw" 127 ⟨"PinBarrel", "run", "(I)I"⟩ ∈ TG := tg 1094 rfl rfl
set_option maxRecDepth 100000 in
theorem okT_l_PinBarrelLaw_130 : Cond.methodLink "PinBarrelLaw" 130 ⟨"PinBarrel", "clear", "(I)I"⟩ ∈ TG := tg 1115 rfl rfl
set_option maxRecDepth 100000 in
theorem okT_l_PinBarrelLaw_133 : Cond.methodLink "PinBarrelLaw" 133 ⟨"PinBarrel", "undo", "()I"⟩ ∈ TG := tg 1121 rfl rfl
set_option maxRecDepth 100000 in
theorem okT_l_PinBarrelLaw_256 : Cond.methodLink "PinBarrelLaw" 256 ⟨"PinBarrelLaw", "foresees", "(LPinBarrel;[II)Z"⟩ ∈ TG := tg 1129 rfl rfl
set_option maxRecDepth 100000 in
theorem okT_l_PinBarrelLaw_211 : Cond.methodLink "PinBarrelLaw" 211 ⟨"PinBarrelLaw", "whole", "(LPinBarrel;)J"⟩ ∈ TG := tg 1132 rfl rfl
set_option maxRecDepth 100000 in
theorem okT_l_PinBarrelLaw_136 : Cond.methodLink "PinBarrelLaw" 136 ⟨"PinBarrel", "heard", "(II)I"⟩ ∈ TG := tg 1135 rfl rfl
set_option maxRecDepth 100000 in
theorem okT_l_PinBarrelLaw_141 : Cond.methodLink "PinBarrelLaw" 141 ⟨"PinBarrel", "tooth", "(II)I"⟩ ∈ TG := tg 1144 rfl rfl
set_option maxRecDepth 100000 in
theorem okT_l_PinBarrelLaw_144 : Cond.methodLink "PinBarrelLaw" 144 ⟨"PinBarrel", "note", "(II)I"⟩ ∈ TG := tg 1154 rfl rfl
set_option maxRecDepth 100000 in
theorem okT_l_PinBarrelLaw_147 : Cond.methodLink "PinBarrelLaw" 147 ⟨"PinBarrel", "chord", "(II)I"⟩ ∈ TG := tg 1166 rfl rfl
set_option maxRecDepth 100000 in
theorem okT_l_PinBarrelLaw_215 : Cond.methodLink "PinBarrelLaw" 215 ⟨"PinBarrel", "ringsIn", "(I)I"⟩ ∈ TG := tg 1174 rfl rfl
set_option maxRecDepth 100000 in
theorem okT_l_PinBarrelLaw_218 : Cond.methodLink "PinBarrelLaw" 218 ⟨"PinBarrel", "buzzesIn", "(I)I"⟩ ∈ TG := tg 1182 rfl rfl
set_option maxRecDepth 100000 in
theorem okT_l_PinBarrelLaw_221 : Cond.methodLink "PinBarrelLaw" 221 ⟨"PinBarrel", "firstBuzz", "()I"⟩ ∈ TG := tg 1186 rfl rfl
set_option maxRecDepth 100000 in
theorem okT_l_PinBarrelLaw_224 : Cond.methodLink "PinBarrelLaw" 224 ⟨"PinBarrel", "nextTooth", "()I"⟩ ∈ TG := tg 1190 rfl rfl
set_option maxRecDepth 100000 in
theorem okT_l_PinBarrelLaw_227 : Cond.methodLink "PinBarrelLaw" 227 ⟨"PinBarrel", "bestTurn", "(I)I"⟩ ∈ TG := tg 1195 rfl rfl
set_option maxRecDepth 100000 in
theorem okT_l_PinBarrelLaw_205 : Cond.methodLink "PinBarrelLaw" 205 ⟨"PinBarrel", "saveSnapshot", "(I)I"⟩ ∈ TG := tg 1199 rfl rfl
set_option maxRecDepth 100000 in
theorem okT_l_PinBarrelLaw_208 : Cond.methodLink "PinBarrelLaw" 208 ⟨"PinBarrel", "restoreSnapshot", "(I)I"⟩ ∈ TG := tg 1203 rfl rfl
set_option maxRecDepth 100000 in
theorem okT_l_PinBarrelLaw_253 : Cond.methodLink "PinBarrelLaw" 253 ⟨"PinBarrelLaw", "agrees", "(LPinBarrel;)Z"⟩ ∈ TG := tg 1207 rfl rfl
set_option maxRecDepth 100000 in
theorem okT_l_PinBarrelLaw_230 : Cond.methodLink "PinBarrelLaw" 230 ⟨"PinBarrelLaw", "collisions", "(LPinBarrel;)Z"⟩ ∈ TG := tg 1210 rfl rfl
set_option maxRecDepth 100000 in
theorem okT_l_PinBarrelLaw_154 : Cond.methodLink "PinBarrelLaw" 154 ⟨"PinBarrel", "collision", "(II)I"⟩ ∈ TG := tg 1213 rfl rfl
set_option maxRecDepth 100000 in
theorem okT_l_PinBarrelLaw_157 : Cond.methodLink "PinBarrelLaw" 157 ⟨"PinBarrel", "hasPin", "(III)Z"⟩ ∈ TG := tg 1237 rfl rfl
set_option maxRecDepth 100000 in
theorem okT_l_PinBarrelLaw_161 : Cond.methodLink "PinBarrelLaw" 161 ⟨"PinBarrelLaw", "isNear", "(LPinBarrel;II)Z"⟩ ∈ TG := tg 1241 rfl rfl
set_option maxRecDepth 100000 in
theorem okT_l_PinBarrelLaw_150 : Cond.methodLink "PinBarrelLaw" 150 ⟨"PinBarrelLaw", "way", "(LPinBarrel;II)I"⟩ ∈ TG := tg 1244 rfl rfl
set_option maxRecDepth 100000 in
theorem okT_l_PinBarrelLaw_234 : Cond.methodLink "PinBarrelLaw" 234 ⟨"PinBarrelLaw", "tune", "(LPinBarrel;I)Z"⟩ ∈ TG := tg 1247 rfl rfl
set_option maxRecDepth 100000 in
theorem okT_l_PinBarrelLaw_165 : Cond.methodLink "PinBarrelLaw" 165 ⟨"PinBarrel", "missing", "(I)I"⟩ ∈ TG := tg 1250 rfl rfl
set_option maxRecDepth 100000 in
theorem okT_l_PinBarrelLaw_168 : Cond.methodLink "PinBarrelLaw" 168 ⟨"PinBarrel", "extra", "(I)I"⟩ ∈ TG := tg 1259 rfl rfl
set_option maxRecDepth 100000 in
theorem okT_l_PinBarrelLaw_171 : Cond.methodLink "PinBarrelLaw" 171 ⟨"PinBarrel", "conflicts", "(I)I"⟩ ∈ TG := tg 1263 rfl rfl
set_option maxRecDepth 100000 in
theorem okT_l_PinBarrelLaw_174 : Cond.methodLink "PinBarrelLaw" 174 ⟨"PinBarrel", "conflict", "(III)I"⟩ ∈ TG := tg 1280 rfl rfl
set_option maxRecDepth 100000 in
theorem okT_l_PinBarrelLaw_177 : Cond.methodLink "PinBarrelLaw" 177 ⟨"PinBarrel", "isClean", "(I)Z"⟩ ∈ TG := tg 1293 rfl rfl
set_option maxRecDepth 100000 in
theorem okT_l_PinBarrelLaw_181 : Cond.methodLink "PinBarrelLaw" 181 ⟨"PinBarrel", "fullest", "(I)I"⟩ ∈ TG := tg 1301 rfl rfl
set_option maxRecDepth 100000 in
theorem okT_k_Integer_265 : Cond.constant "java/lang/Integer" 265 (1431655765) ∈ TG := tg 1308 rfl rfl
set_option maxRecDepth 100000 in
theorem okT_k_Integer_266 : Cond.constant "java/lang/Integer" 266 (858993459) ∈ TG := tg 1309 rfl rfl
set_option maxRecDepth 100000 in
theorem okT_k_Integer_267 : Cond.constant "java/lang/Integer" 267 (252645135) ∈ TG := tg 1310 rfl rfl
set_option maxRecDepth 100000 in
theorem okT_l_PinBarrelLaw_184 : Cond.methodLink "PinBarrelLaw" 184 ⟨"PinBarrel", "silence", "(I)I"⟩ ∈ TG := tg 1311 rfl rfl
set_option maxRecDepth 100000 in
theorem okT_l_PinBarrelLaw_238 : Cond.methodLink "PinBarrelLaw" 238 ⟨"PinBarrelLaw", "laid", "(LPinBarrel;I)Z"⟩ ∈ TG := tg 1322 rfl rfl
set_option maxRecDepth 100000 in
theorem okT_l_PinBarrelLaw_187 : Cond.methodLink "PinBarrelLaw" 187 ⟨"PinBarrel", "canLay", "(I)I"⟩ ∈ TG := tg 1325 rfl rfl
set_option maxRecDepth 100000 in
theorem okT_l_PinBarrelLaw_190 : Cond.methodLink "PinBarrelLaw" 190 ⟨"PinBarrel", "laidOn", "(I)I"⟩ ∈ TG := tg 1329 rfl rfl
set_option maxRecDepth 100000 in
theorem okT_l_PinBarrelLaw_193 : Cond.methodLink "PinBarrelLaw" 193 ⟨"PinBarrel", "spare", "(I)I"⟩ ∈ TG := tg 1337 rfl rfl
set_option maxRecDepth 100000 in
theorem okT_l_PinBarrelLaw_196 : Cond.methodLink "PinBarrelLaw" 196 ⟨"PinBarrel", "fastest", "(I)I"⟩ ∈ TG := tg 1345 rfl rfl
set_option maxRecDepth 100000 in
theorem okT_l_PinBarrelLaw_199 : Cond.methodLink "PinBarrelLaw" 199 ⟨"PinBarrel", "tries", "(I)I"⟩ ∈ TG := tg 1349 rfl rfl
set_option maxRecDepth 100000 in
theorem okT_l_PinBarrelLaw_202 : Cond.methodLink "PinBarrelLaw" 202 ⟨"PinBarrel", "needed", "(I)I"⟩ ∈ TG := tg 1353 rfl rfl
set_option maxRecDepth 100000 in
theorem okT_m_J5_appendNull_278bc : Cond.sameMethod "java/lang/AbstractStringBuilder" "java/lang/AbstractStringBuilder" "appendNull" "()Ljava/lang/AbstractStringBuilder;" ∈ TG := tg 1357 rfl rfl
set_option maxRecDepth 100000 in
theorem okT_m_J5_ensureCapacityInternal_d00df : Cond.sameMethod "java/lang/AbstractStringBuilder" "java/lang/AbstractStringBuilder" "ensureCapacityInternal" "(I)V" ∈ TG := tg 1358 rfl rfl
set_option maxRecDepth 100000 in
theorem okT_m_J5_newCapacity_0f7a4 : Cond.sameMethod "java/lang/AbstractStringBuilder" "java/lang/AbstractStringBuilder" "newCapacity" "(I)I" ∈ TG := tg 1359 rfl rfl
set_option maxRecDepth 100000 in
theorem okT_m_J5_putStringAt_47b60 : Cond.sameMethod "java/lang/AbstractStringBuilder" "java/lang/AbstractStringBuilder" "putStringAt" "(ILjava/lang/String;)V" ∈ TG := tg 1360 rfl rfl
set_option maxRecDepth 100000 in
theorem okT_m_J5_inflateIfNeededFor_a7421 : Cond.sameMethod "java/lang/AbstractStringBuilder" "java/lang/AbstractStringBuilder" "inflateIfNeededFor" "(Ljava/lang/String;)V" ∈ TG := tg 1361 rfl rfl
set_option maxRecDepth 100000 in
theorem okT_m_J5_inflate_da8c8 : Cond.sameMethod "java/lang/AbstractStringBuilder" "java/lang/AbstractStringBuilder" "inflate" "()V" ∈ TG := tg 1362 rfl rfl
set_option maxRecDepth 100000 in
theorem okT_m_J5_append_c97b9 : Cond.sameMethod "java/lang/AbstractStringBuilder" "java/lang/AbstractStringBuilder" "append" "(I)Ljava/lang/AbstractStringBuilder;" ∈ TG := tg 1363 rfl rfl
set_option maxRecDepth 100000 in
theorem okT_m_J5_append_3fe6f : Cond.sameMethod "java/lang/AbstractStringBuilder" "java/lang/AbstractStringBuilder" "append" "(C)Ljava/lang/AbstractStringBuilder;" ∈ TG := tg 1364 rfl rfl
theorem jt_sel {C : String} {n : Nat} {y y' : MethodName} {s : State} {args : Array Value} (hy : y.cls ≠ "java/lang/invoke/MethodHandle" ∧ y.cls ≠ "java/lang/invoke/VarHandle") (hins : (Cond.instantiable C n).before args s = true) (hpriv : (Cond.privateMethod y).before args s = true) (hinst : (Cond.instanceMethod y).before args s = true) (hcls : y'.cls = y.cls) (h' : (Cond.selects C y' y').before args s = true) : (Cond.selects C y y).before args s = true := by
  obtain ⟨c, k, hc, hk, -, hniab, -, -⟩ := Cond.instantiable_spec hins
  obtain ⟨mk, methM, hnamed, hmethM, -, -⟩ := Cond.instanceMethod_spec hinst
  have hfound : s.methodFound? y.cls y.name y.desc = some mk := State.methodFound?_of_named hnamed hy
  have hsel : selectMethod {} s.vm c mk = .method mk := selectMethod_private hmethM (Cond.privateMethod_at hpriv mk methM hnamed hmethM)
  obtain ⟨c', r', m', -, -, h3, -, k', h4, h5⟩ := Cond.selects_spec h'
  have e1 := findClass_of_methodNamed hnamed
  have e2 := findClass_of_methodNamed h3
  rw [hcls] at e2
  have e3 : m'.cls = mk.cls := Option.some.inj (e2.symm.trans e1)
  rw [e3] at h4
  simp only [Cond.before, Cond.holds, Cond.value, hc, hfound, hnamed, hsel, h4]
  simp
  exact h5
def TS : List Cond := [Cond.selects RJ4 yJ5_ensureCapacityInternal_d00df yJ5_ensureCapacityInternal_d00df, Cond.selects RJ4 yJ5_newCapacity_0f7a4 yJ5_newCapacity_0f7a4, Cond.selects RJ4 yJ5_putStringAt_47b60 yJ5_putStringAt_47b60, Cond.selects RJ4 yJ5_inflateIfNeededFor_a7421 yJ5_inflateIfNeededFor_a7421]
theorem TS_good : ∀ w ∈ TS, goodWord w = true := by
  intro w hw
  simp only [TS, List.mem_cons, List.not_mem_nil, or_false] at hw
  rcases hw with rfl | rfl | rfl | rfl <;> rfl
theorem TS_at {s0 s : State} {a0 : Array Value} (hF : ∀ w ∈ lw_tbl, w.before a0 s0 = true) (hW : s0.WarmedH s.vm) (a : Array Value) : ∀ w ∈ TS, w.before a s = true := by
  have hT : ∀ w ∈ TG, w.before a0 s0 = true := fun w h => hF w (List.mem_filter.mp h).1
  have h0 : ∀ w ∈ TS, w.before a0 s0 = true := by
    intro w hw
    simp only [TS, List.mem_cons, List.not_mem_nil, or_false] at hw
    rcases hw with rfl | rfl | rfl | rfl
    · exact jt_sel (y' := yJ5_isLatin1_aae02) ⟨by decide, by decide⟩ (hT _ okT_n_StringBuilder) (hF _ okT_J5_ensureCapacityInternal_d00df_p) (hT _ okT_J5_ensureCapacityInternal_d00df_i) rfl (hT _ okT_v_StringBuilder_J5_isLatin1_aae02)
    · exact jt_sel (y' := yJ5_isLatin1_aae02) ⟨by decide, by decide⟩ (hT _ okT_n_StringBuilder) (hF _ okT_J5_newCapacity_0f7a4_p) (hT _ okT_J5_newCapacity_0f7a4_i) rfl (hT _ okT_v_StringBuilder_J5_isLatin1_aae02)
    · exact jt_sel (y' := yJ5_isLatin1_aae02) ⟨by decide, by decide⟩ (hT _ okT_n_StringBuilder) (hF _ okT_J5_putStringAt_47b60_p) (hT _ okT_J5_putStringAt_47b60_i) rfl (hT _ okT_v_StringBuilder_J5_isLatin1_aae02)
    · exact jt_sel (y' := yJ5_isLatin1_aae02) ⟨by decide, by decide⟩ (hT _ okT_n_StringBuilder) (hF _ okT_J5_inflateIfNeededFor_a7421_p) (hT _ okT_J5_inflateIfNeededFor_a7421_i) rfl (hT _ okT_v_StringBuilder_J5_isLatin1_aae02)
  exact fun w h => pay_in (big := TS) (ws := TS) (args := a0) h0 (fun w h => ⟨h, good_of_word (TS_good w h)⟩) w h a s hW
theorem tsm {w : Cond} (i : Nat) (h : TS[i]? = some w) : w ∈ TS := List.mem_of_getElem? h
