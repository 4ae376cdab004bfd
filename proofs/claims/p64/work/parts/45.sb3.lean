/-! ===== append of a number, of a letter; making and ending a builder ===== -/
theorem get_last {α : Type} (l : List α) (x : α) : (l ++ [x])[l.length]? = some x := by simp
theorem set_last {α : Type} (l : List α) (x y : α) : (l ++ [x]).set l.length y = l ++ [y] := by simp [List.set_append]
theorem sub0 (x : Int32) : x - nI 0 = x := by rw [show nI 0 = (0 : Int32) from rfl, Int32.sub_zero]
set_option maxRecDepth 100000 in
theorem jf_RJ6_83 : Cond.fieldLink RJ6 83 "java/lang/Integer" "DigitOnes" "[B" ∈ BW := bw_in (List.mem_of_getElem? (i := 640) (by rfl)) (by rfl)
set_option maxRecDepth 100000 in
theorem jf_RJ6_87 : Cond.fieldLink RJ6 87 "java/lang/Integer" "DigitTens" "[B" ∈ BW := bw_in (List.mem_of_getElem? (i := 642) (by rfl)) (by rfl)
set_option maxRecDepth 100000 in
theorem jc_J6_stringSize_0f7a4 : Cond.code yJ6_stringSize_0f7a4 cJ6_stringSize_0f7a4 4 (some .int) ∈ BW := bw_in (List.mem_of_getElem? (i := 636) (by rfl)) (by rfl)
set_option maxRecDepth 100000 in
theorem jn_RJ6 : Cond.initialized RJ6 ∈ BW := bw_in (List.mem_of_getElem? (i := 62) (by rfl)) (by rfl)
set_option maxRecDepth 100000 in
theorem jl_RJ5_245 : Cond.methodLink RJ5 245 yJ6_stringSize_0f7a4 ∈ BW := bw_in (List.mem_of_getElem? (i := 634) (by rfl)) (by rfl)
set_option maxRecDepth 100000 in
theorem jt_J6_stringSize_0f7a4 : Cond.static yJ6_stringSize_0f7a4 ∈ BW := bw_in (List.mem_of_getElem? (i := 635) (by rfl)) (by rfl)
set_option maxRecDepth 100000 in
theorem jc_J5_isLatin1_aae02 : Cond.code yJ5_isLatin1_aae02 cJ5_isLatin1_aae02 1 (some .boolean) ∈ BW := bw_in (List.mem_of_getElem? (i := 557) (by rfl)) (by rfl)
set_option maxRecDepth 100000 in
theorem jl_RJ5_83 : Cond.methodLink RJ5 83 yJ5_isLatin1_aae02 ∈ BW := bw_in (List.mem_of_getElem? (i := 553) (by rfl)) (by rfl)
set_option maxRecDepth 100000 in
theorem ji_J5_isLatin1_aae02 : Cond.instanceMethod yJ5_isLatin1_aae02 ∈ BW := bw_in (List.mem_of_getElem? (i := 554) (by rfl)) (by rfl)
set_option maxRecDepth 100000 in
theorem jc_J6_getChars_ba4f3 : Cond.code yJ6_getChars_ba4f3 cJ6_getChars_ba4f3 7 (some .int) ∈ BW := bw_in (List.mem_of_getElem? (i := 639) (by rfl)) (by rfl)
set_option maxRecDepth 100000 in
theorem jl_RJ5_248 : Cond.methodLink RJ5 248 yJ6_getChars_ba4f3 ∈ BW := bw_in (List.mem_of_getElem? (i := 637) (by rfl)) (by rfl)
set_option maxRecDepth 100000 in
theorem jt_J6_getChars_ba4f3 : Cond.static yJ6_getChars_ba4f3 ∈ BW := bw_in (List.mem_of_getElem? (i := 638) (by rfl)) (by rfl)
set_option maxRecDepth 100000 in
theorem jc_J5_append_c97b9 : Cond.code yJ5_append_c97b9 cJ5_append_c97b9 4 (some (.object "java/lang/AbstractStringBuilder")) ∈ BW := bw_in (List.mem_of_getElem? (i := 633) (by rfl)) (by rfl)
set_option maxRecDepth 100000 in
theorem jl_RJ4_53 : Cond.methodLink RJ4 53 yJ5_append_c97b9 ∈ BW := bw_in (List.mem_of_getElem? (i := 631) (by rfl)) (by rfl)
set_option maxRecDepth 100000 in
theorem ji_J5_append_c97b9 : Cond.instanceMethod yJ5_append_c97b9 ∈ BW := bw_in (List.mem_of_getElem? (i := 632) (by rfl)) (by rfl)
set_option maxRecDepth 100000 in
theorem jm_J5_append_c97b9 : Cond.sameMethod RJ5 RJ5 "append" "(I)Ljava/lang/AbstractStringBuilder;" ∈ BW := bw_in (List.mem_of_getElem? (i := 1554) (by rfl)) (by rfl)
set_option maxRecDepth 100000 in
theorem jc_J1_canEncode_fc78d : Cond.code yJ1_canEncode_fc78d cJ1_canEncode_fc78d 1 (some .boolean) ∈ BW := bw_in (List.mem_of_getElem? (i := 804) (by rfl)) (by rfl)
set_option maxRecDepth 100000 in
theorem jl_RJ5_191 : Cond.methodLink RJ5 191 yJ1_canEncode_fc78d ∈ BW := bw_in (List.mem_of_getElem? (i := 802) (by rfl)) (by rfl)
set_option maxRecDepth 100000 in
theorem jt_J1_canEncode_fc78d : Cond.static yJ1_canEncode_fc78d ∈ BW := bw_in (List.mem_of_getElem? (i := 803) (by rfl)) (by rfl)
set_option maxRecDepth 100000 in
theorem jc_J5_append_3fe6f : Cond.code yJ5_append_3fe6f cJ5_append_3fe6f 2 (some (.object "java/lang/AbstractStringBuilder")) ∈ BW := bw_in (List.mem_of_getElem? (i := 801) (by rfl)) (by rfl)
set_option maxRecDepth 100000 in
theorem jl_RJ4_50 : Cond.methodLink RJ4 50 yJ5_append_3fe6f ∈ BW := bw_in (List.mem_of_getElem? (i := 799) (by rfl)) (by rfl)
set_option maxRecDepth 100000 in
theorem ji_J5_append_3fe6f : Cond.instanceMethod yJ5_append_3fe6f ∈ BW := bw_in (List.mem_of_getElem? (i := 800) (by rfl)) (by rfl)
set_option maxRecDepth 100000 in
theorem jm_J5_append_3fe6f : Cond.sameMethod RJ5 RJ5 "append" "(C)Ljava/lang/AbstractStringBuilder;" ∈ BW := bw_in (List.mem_of_getElem? (i := 1556) (by rfl)) (by rfl)
set_option maxRecDepth 100000 in
theorem ol_RJ5 : Cond.methodLink RJ5 3 Lib.objectInit ∈ BW := bw_in (List.mem_of_getElem? (i := 483) (by rfl)) (by rfl)
set_option maxRecDepth 100000 in
set_option maxRecDepth 100000 in
set_option maxRecDepth 100000 in
theorem jc_J5_init_d00df : Cond.code yJ5_init_d00df cJ5_init_d00df 2 none ∈ BW := bw_in (List.mem_of_getElem? (i := 482) (by rfl)) (by rfl)
set_option maxRecDepth 100000 in
theorem jl_RJ4_1 : Cond.methodLink RJ4 1 yJ5_init_d00df ∈ BW := bw_in (List.mem_of_getElem? (i := 480) (by rfl)) (by rfl)
set_option maxRecDepth 100000 in
theorem ji_J5_init_d00df : Cond.instanceMethod yJ5_init_d00df ∈ BW := bw_in (List.mem_of_getElem? (i := 481) (by rfl)) (by rfl)
set_option maxRecDepth 100000 in
theorem jc_J7_checkLength_df160 : Cond.code yJ7_checkLength_df160 cJ7_checkLength_df160 2 none ∈ BW := bw_in (List.mem_of_getElem? (i := 692) (by rfl)) (by rfl)
set_option maxRecDepth 100000 in
theorem jl_RJ7_343 : Cond.methodLink RJ7 343 yJ7_checkLength_df160 ∈ BW := bw_in (List.mem_of_getElem? (i := 690) (by rfl)) (by rfl)
set_option maxRecDepth 100000 in
theorem jt_J7_checkLength_df160 : Cond.static yJ7_checkLength_df160 ∈ BW := bw_in (List.mem_of_getElem? (i := 691) (by rfl)) (by rfl)
set_option maxRecDepth 100000 in
theorem cl_7 : Cond.classLink RJ7 311 "[B" ∈ BW := bw_in (List.mem_of_getElem? (i := 546) (by rfl)) (by rfl)
set_option maxRecDepth 100000 in
theorem cl_1 : Cond.methodLink RJ7 310 ⟨"[B", "clone", "()Ljava/lang/Object;"⟩ ∈ BW := bw_in (List.mem_of_getElem? (i := 540) (by rfl)) (by rfl)
set_option maxRecDepth 100000 in
theorem cl_2 : Cond.sameMethod "[B" "java/lang/Object" "clone" "()Ljava/lang/Object;" ∈ BW := bw_in (List.mem_of_getElem? (i := 541) (by rfl)) (by rfl)
set_option maxRecDepth 100000 in
theorem cl_3 : Cond.native ⟨"java/lang/Object", "clone", "()Ljava/lang/Object;"⟩ ∈ BW := bw_in (List.mem_of_getElem? (i := 542) (by rfl)) (by rfl)
set_option maxRecDepth 100000 in
theorem cl_4 : Cond.instanceMethod ⟨"java/lang/Object", "clone", "()Ljava/lang/Object;"⟩ ∈ BW := bw_in (List.mem_of_getElem? (i := 543) (by rfl)) (by rfl)
set_option maxRecDepth 100000 in
theorem cl_5 : Cond.selects "[B" ⟨"[B", "clone", "()Ljava/lang/Object;"⟩ ⟨"java/lang/Object", "clone", "()Ljava/lang/Object;"⟩ ∈ BW := bw_in (List.mem_of_getElem? (i := 544) (by rfl)) (by rfl)
set_option maxRecDepth 100000 in
theorem cl_6 : Cond.castable "[B" "java/lang/Cloneable" ∈ BW := bw_in (List.mem_of_getElem? (i := 545) (by rfl)) (by rfl)
set_option maxRecDepth 100000 in
theorem jc_J7_copyOfRangeByte_39247 : Cond.code yJ7_copyOfRangeByte_39247 cJ7_copyOfRangeByte_39247 5 (some (.array .byte)) ∈ BW := bw_in (List.mem_of_getElem? (i := 689) (by rfl)) (by rfl)
set_option maxRecDepth 100000 in
theorem jl_RJ7_339 : Cond.methodLink RJ7 339 yJ7_copyOfRangeByte_39247 ∈ BW := bw_in (List.mem_of_getElem? (i := 687) (by rfl)) (by rfl)
set_option maxRecDepth 100000 in
theorem jt_J7_copyOfRangeByte_39247 : Cond.static yJ7_copyOfRangeByte_39247 ∈ BW := bw_in (List.mem_of_getElem? (i := 688) (by rfl)) (by rfl)
set_option maxRecDepth 100000 in
theorem ol_RJ0 : Cond.methodLink RJ0 1 Lib.objectInit ∈ BW := bw_in (List.mem_of_getElem? (i := 669) (by rfl)) (by rfl)
set_option maxRecDepth 100000 in
theorem js_RJ4_J5_getValue_6d5f1 : Cond.selects RJ4 yJ5_getValue_6d5f1 yJ5_getValue_6d5f1 ∈ BW := bw_in (List.mem_of_getElem? (i := 673) (by rfl)) (by rfl)
set_option maxRecDepth 100000 in
theorem jc_J5_getValue_6d5f1 : Cond.code yJ5_getValue_6d5f1 cJ5_getValue_6d5f1 1 (some (.array .byte)) ∈ BW := bw_in (List.mem_of_getElem? (i := 674) (by rfl)) (by rfl)
set_option maxRecDepth 100000 in
theorem jl_RJ0_552 : Cond.methodLink RJ0 552 yJ5_getValue_6d5f1 ∈ BW := bw_in (List.mem_of_getElem? (i := 670) (by rfl)) (by rfl)
set_option maxRecDepth 100000 in
theorem ji_J5_getValue_6d5f1 : Cond.instanceMethod yJ5_getValue_6d5f1 ∈ BW := bw_in (List.mem_of_getElem? (i := 671) (by rfl)) (by rfl)
set_option maxRecDepth 100000 in
theorem jc_J4_length_8abf5 : Cond.code yJ4_length_8abf5 cJ4_length_8abf5 1 (some .int) ∈ BW := bw_in (List.mem_of_getElem? (i := 680) (by rfl)) (by rfl)
set_option maxRecDepth 100000 in
theorem jn_RJ4 : Cond.initialized RJ4 ∈ BW := bw_in (List.mem_of_getElem? (i := 52) (by rfl)) (by rfl)
set_option maxRecDepth 100000 in
theorem jl_RJ0_549 : Cond.methodLink RJ0 549 yJ5_length_8abf5 ∈ BW := bw_in (List.mem_of_getElem? (i := 675) (by rfl)) (by rfl)
set_option maxRecDepth 100000 in
theorem ji_J4_length_8abf5 : Cond.instanceMethod yJ4_length_8abf5 ∈ BW := bw_in (List.mem_of_getElem? (i := 679) (by rfl)) (by rfl)
set_option maxRecDepth 100000 in
theorem js_O_J5_length_8abf5 : Cond.selects RJ4 yJ5_length_8abf5 yJ4_length_8abf5 ∈ BW := bw_in (List.mem_of_getElem? (i := 678) (by rfl)) (by rfl)
set_option maxRecDepth 100000 in
theorem jl_RJ0_1047 : Cond.methodLink RJ0 1047 yJ5_isLatin1_aae02 ∈ BW := bw_in (List.mem_of_getElem? (i := 683) (by rfl)) (by rfl)
set_option maxRecDepth 100000 in
theorem jc_J7_copyOfRange_39247 : Cond.code yJ7_copyOfRange_39247 cJ7_copyOfRange_39247 3 (some (.array .byte)) ∈ BW := bw_in (List.mem_of_getElem? (i := 686) (by rfl)) (by rfl)
set_option maxRecDepth 100000 in
theorem jl_RJ0_54 : Cond.methodLink RJ0 54 yJ7_copyOfRange_39247 ∈ BW := bw_in (List.mem_of_getElem? (i := 684) (by rfl)) (by rfl)
set_option maxRecDepth 100000 in
theorem jt_J7_copyOfRange_39247 : Cond.static yJ7_copyOfRange_39247 ∈ BW := bw_in (List.mem_of_getElem? (i := 685) (by rfl)) (by rfl)
set_option maxRecDepth 100000 in
theorem jc_J0_init_db425 : Cond.code yJ0_init_db425 cJ0_init_db425 5 none ∈ BW := bw_in (List.mem_of_getElem? (i := 668) (by rfl)) (by rfl)
set_option maxRecDepth 100000 in
theorem jl_RJ0_489 : Cond.methodLink RJ0 489 yJ0_init_db425 ∈ BW := bw_in (List.mem_of_getElem? (i := 666) (by rfl)) (by rfl)
set_option maxRecDepth 100000 in
theorem ji_J0_init_db425 : Cond.instanceMethod yJ0_init_db425 ∈ BW := bw_in (List.mem_of_getElem? (i := 667) (by rfl)) (by rfl)
set_option maxRecDepth 100000 in
theorem cl_J4_18 : Cond.classLink RJ4 18 RJ0 ∈ BW := bw_in (List.mem_of_getElem? (i := 661) (by rfl)) (by rfl)
set_option maxRecDepth 100000 in
theorem iz_RJ0 : Cond.instantiable RJ0 4 ∈ BW := bw_in (List.mem_of_getElem? (i := 662) (by rfl)) (by rfl)
set_option maxRecDepth 100000 in
theorem jc_J0_init_81219 : Cond.code yJ0_init_81219 cJ0_init_81219 2 none ∈ BW := bw_in (List.mem_of_getElem? (i := 665) (by rfl)) (by rfl)
set_option maxRecDepth 100000 in
theorem jl_RJ4_137 : Cond.methodLink RJ4 137 yJ0_init_81219 ∈ BW := bw_in (List.mem_of_getElem? (i := 663) (by rfl)) (by rfl)
set_option maxRecDepth 100000 in
theorem ji_J0_init_81219 : Cond.instanceMethod yJ0_init_81219 ∈ BW := bw_in (List.mem_of_getElem? (i := 664) (by rfl)) (by rfl)
theorem dJ6_stringSize_0f7a4_0 : decode cJ6_stringSize_0f7a4 0 = .ok (.iconst 1, 1) := by decide +kernel
theorem dJ6_stringSize_0f7a4_1 : decode cJ6_stringSize_0f7a4 1 = .ok (.istore_n 1, 1) := by decide +kernel
theorem dJ6_stringSize_0f7a4_2 : decode cJ6_stringSize_0f7a4 2 = .ok (.iload_n 0, 1) := by decide +kernel
theorem dJ6_stringSize_0f7a4_3 : decode cJ6_stringSize_0f7a4 3 = .ok (.ifCond .lt 8, 3) := by decide +kernel
theorem dJ6_stringSize_0f7a4_6 : decode cJ6_stringSize_0f7a4 6 = .ok (.iconst 0, 1) := by decide +kernel
theorem dJ6_stringSize_0f7a4_7 : decode cJ6_stringSize_0f7a4 7 = .ok (.istore_n 1, 1) := by decide +kernel
theorem dJ6_stringSize_0f7a4_8 : decode cJ6_stringSize_0f7a4 8 = .ok (.iload_n 0, 1) := by decide +kernel
theorem dJ6_stringSize_0f7a4_9 : decode cJ6_stringSize_0f7a4 9 = .ok (.ineg, 1) := by decide +kernel
theorem dJ6_stringSize_0f7a4_10 : decode cJ6_stringSize_0f7a4 10 = .ok (.istore_n 0, 1) := by decide +kernel
theorem dJ6_stringSize_0f7a4_11 : decode cJ6_stringSize_0f7a4 11 = .ok (.bipush (-10), 2) := by decide +kernel
theorem dJ6_stringSize_0f7a4_13 : decode cJ6_stringSize_0f7a4 13 = .ok (.istore_n 2, 1) := by decide +kernel
theorem dJ6_stringSize_0f7a4_14 : decode cJ6_stringSize_0f7a4 14 = .ok (.iconst 1, 1) := by decide +kernel
theorem dJ6_stringSize_0f7a4_15 : decode cJ6_stringSize_0f7a4 15 = .ok (.istore_n 3, 1) := by decide +kernel
theorem dJ6_stringSize_0f7a4_16 : decode cJ6_stringSize_0f7a4 16 = .ok (.iload_n 3, 1) := by decide +kernel
theorem dJ6_stringSize_0f7a4_17 : decode cJ6_stringSize_0f7a4 17 = .ok (.bipush 10, 2) := by decide +kernel
theorem dJ6_stringSize_0f7a4_19 : decode cJ6_stringSize_0f7a4 19 = .ok (.if_icmp .ge 23, 3) := by decide +kernel
theorem dJ6_stringSize_0f7a4_22 : decode cJ6_stringSize_0f7a4 22 = .ok (.iload_n 0, 1) := by decide +kernel
theorem dJ6_stringSize_0f7a4_23 : decode cJ6_stringSize_0f7a4 23 = .ok (.iload_n 2, 1) := by decide +kernel
theorem dJ6_stringSize_0f7a4_24 : decode cJ6_stringSize_0f7a4 24 = .ok (.if_icmp .le 7, 3) := by decide +kernel
theorem dJ6_stringSize_0f7a4_27 : decode cJ6_stringSize_0f7a4 27 = .ok (.iload_n 3, 1) := by decide +kernel
theorem dJ6_stringSize_0f7a4_28 : decode cJ6_stringSize_0f7a4 28 = .ok (.iload_n 1, 1) := by decide +kernel
theorem dJ6_stringSize_0f7a4_29 : decode cJ6_stringSize_0f7a4 29 = .ok (.iadd, 1) := by decide +kernel
theorem dJ6_stringSize_0f7a4_30 : decode cJ6_stringSize_0f7a4 30 = .ok (.ireturn, 1) := by decide +kernel
theorem dJ6_stringSize_0f7a4_31 : decode cJ6_stringSize_0f7a4 31 = .ok (.bipush 10, 2) := by decide +kernel
theorem dJ6_stringSize_0f7a4_33 : decode cJ6_stringSize_0f7a4 33 = .ok (.iload_n 2, 1) := by decide +kernel
theorem dJ6_stringSize_0f7a4_34 : decode cJ6_stringSize_0f7a4 34 = .ok (.imul, 1) := by decide +kernel
theorem dJ6_stringSize_0f7a4_35 : decode cJ6_stringSize_0f7a4 35 = .ok (.istore_n 2, 1) := by decide +kernel
theorem dJ6_stringSize_0f7a4_36 : decode cJ6_stringSize_0f7a4 36 = .ok (.iinc 3 1, 3) := by decide +kernel
theorem dJ6_stringSize_0f7a4_39 : decode cJ6_stringSize_0f7a4 39 = .ok (.goto (-23), 3) := by decide +kernel
theorem dJ6_getChars_ba4f3_0 : decode cJ6_getChars_ba4f3 0 = .ok (.iload_n 1, 1) := by decide +kernel
theorem dJ6_getChars_ba4f3_1 : decode cJ6_getChars_ba4f3 1 = .ok (.istore 5, 2) := by decide +kernel
theorem dJ6_getChars_ba4f3_3 : decode cJ6_getChars_ba4f3 3 = .ok (.iload_n 0, 1) := by decide +kernel
theorem dJ6_getChars_ba4f3_4 : decode cJ6_getChars_ba4f3 4 = .ok (.ifCond .ge 7, 3) := by decide +kernel
theorem dJ6_getChars_ba4f3_11 : decode cJ6_getChars_ba4f3 11 = .ok (.iconst 0, 1) := by decide +kernel
theorem dJ6_getChars_ba4f3_12 : decode cJ6_getChars_ba4f3 12 = .ok (.istore 6, 2) := by decide +kernel
theorem dJ6_getChars_ba4f3_14 : decode cJ6_getChars_ba4f3 14 = .ok (.iload 6, 2) := by decide +kernel
theorem dJ6_getChars_ba4f3_16 : decode cJ6_getChars_ba4f3 16 = .ok (.ifCond .ne 6, 3) := by decide +kernel
theorem dJ6_getChars_ba4f3_19 : decode cJ6_getChars_ba4f3 19 = .ok (.iload_n 0, 1) := by decide +kernel
theorem dJ6_getChars_ba4f3_20 : decode cJ6_getChars_ba4f3 20 = .ok (.ineg, 1) := by decide +kernel
theorem dJ6_getChars_ba4f3_21 : decode cJ6_getChars_ba4f3 21 = .ok (.istore_n 0, 1) := by decide +kernel
theorem dJ6_getChars_ba4f3_22 : decode cJ6_getChars_ba4f3 22 = .ok (.iload_n 0, 1) := by decide +kernel
theorem dJ6_getChars_ba4f3_23 : decode cJ6_getChars_ba4f3 23 = .ok (.bipush (-100), 2) := by decide +kernel
theorem dJ6_getChars_ba4f3_25 : decode cJ6_getChars_ba4f3 25 = .ok (.if_icmp .gt 47, 3) := by decide +kernel
theorem dJ6_getChars_ba4f3_72 : decode cJ6_getChars_ba4f3 72 = .ok (.aload_n 2, 1) := by decide +kernel
theorem dJ6_getChars_ba4f3_73 : decode cJ6_getChars_ba4f3 73 = .ok (.iinc 5 (-1), 3) := by decide +kernel
theorem dJ6_getChars_ba4f3_76 : decode cJ6_getChars_ba4f3 76 = .ok (.iload 5, 2) := by decide +kernel
theorem dJ6_getChars_ba4f3_78 : decode cJ6_getChars_ba4f3 78 = .ok (.getstatic 83, 3) := by decide +kernel
theorem dJ6_getChars_ba4f3_81 : decode cJ6_getChars_ba4f3 81 = .ok (.iload_n 0, 1) := by decide +kernel
theorem dJ6_getChars_ba4f3_82 : decode cJ6_getChars_ba4f3 82 = .ok (.ineg, 1) := by decide +kernel
theorem dJ6_getChars_ba4f3_83 : decode cJ6_getChars_ba4f3 83 = .ok (.baload, 1) := by decide +kernel
theorem dJ6_getChars_ba4f3_84 : decode cJ6_getChars_ba4f3 84 = .ok (.bastore, 1) := by decide +kernel
theorem dJ6_getChars_ba4f3_85 : decode cJ6_getChars_ba4f3 85 = .ok (.iload_n 0, 1) := by decide +kernel
theorem dJ6_getChars_ba4f3_86 : decode cJ6_getChars_ba4f3 86 = .ok (.bipush (-9), 2) := by decide +kernel
theorem dJ6_getChars_ba4f3_88 : decode cJ6_getChars_ba4f3 88 = .ok (.if_icmp .ge 16, 3) := by decide +kernel
theorem dJ6_getChars_ba4f3_104 : decode cJ6_getChars_ba4f3 104 = .ok (.iload 6, 2) := by decide +kernel
theorem dJ6_getChars_ba4f3_106 : decode cJ6_getChars_ba4f3 106 = .ok (.ifCond .eq 12, 3) := by decide +kernel
theorem dJ6_getChars_ba4f3_118 : decode cJ6_getChars_ba4f3 118 = .ok (.iload 5, 2) := by decide +kernel
theorem dJ6_getChars_ba4f3_120 : decode cJ6_getChars_ba4f3 120 = .ok (.ireturn, 1) := by decide +kernel
theorem dJ6_getChars_ba4f3_91 : decode cJ6_getChars_ba4f3 91 = .ok (.aload_n 2, 1) := by decide +kernel
theorem dJ6_getChars_ba4f3_92 : decode cJ6_getChars_ba4f3 92 = .ok (.iinc 5 (-1), 3) := by decide +kernel
theorem dJ6_getChars_ba4f3_95 : decode cJ6_getChars_ba4f3 95 = .ok (.iload 5, 2) := by decide +kernel
theorem dJ6_getChars_ba4f3_97 : decode cJ6_getChars_ba4f3 97 = .ok (.getstatic 87, 3) := by decide +kernel
theorem dJ6_getChars_ba4f3_100 : decode cJ6_getChars_ba4f3 100 = .ok (.iload_n 0, 1) := by decide +kernel
theorem dJ6_getChars_ba4f3_101 : decode cJ6_getChars_ba4f3 101 = .ok (.ineg, 1) := by decide +kernel
theorem dJ6_getChars_ba4f3_102 : decode cJ6_getChars_ba4f3 102 = .ok (.baload, 1) := by decide +kernel
theorem dJ6_getChars_ba4f3_103 : decode cJ6_getChars_ba4f3 103 = .ok (.bastore, 1) := by decide +kernel
theorem dJ6_getChars_ba4f3_28 : decode cJ6_getChars_ba4f3 28 = .ok (.iload_n 0, 1) := by decide +kernel
theorem dJ6_getChars_ba4f3_29 : decode cJ6_getChars_ba4f3 29 = .ok (.bipush 100, 2) := by decide +kernel
theorem dJ6_getChars_ba4f3_31 : decode cJ6_getChars_ba4f3 31 = .ok (.idiv, 1) := by decide +kernel
theorem dJ6_getChars_ba4f3_32 : decode cJ6_getChars_ba4f3 32 = .ok (.istore_n 3, 1) := by decide +kernel
theorem dJ6_getChars_ba4f3_33 : decode cJ6_getChars_ba4f3 33 = .ok (.iload_n 3, 1) := by decide +kernel
theorem dJ6_getChars_ba4f3_34 : decode cJ6_getChars_ba4f3 34 = .ok (.bipush 100, 2) := by decide +kernel
theorem dJ6_getChars_ba4f3_36 : decode cJ6_getChars_ba4f3 36 = .ok (.imul, 1) := by decide +kernel
theorem dJ6_getChars_ba4f3_37 : decode cJ6_getChars_ba4f3 37 = .ok (.iload_n 0, 1) := by decide +kernel
theorem dJ6_getChars_ba4f3_38 : decode cJ6_getChars_ba4f3 38 = .ok (.isub, 1) := by decide +kernel
theorem dJ6_getChars_ba4f3_39 : decode cJ6_getChars_ba4f3 39 = .ok (.istore 4, 2) := by decide +kernel
theorem dJ6_getChars_ba4f3_41 : decode cJ6_getChars_ba4f3 41 = .ok (.iload_n 3, 1) := by decide +kernel
theorem dJ6_getChars_ba4f3_42 : decode cJ6_getChars_ba4f3 42 = .ok (.istore_n 0, 1) := by decide +kernel
theorem dJ6_getChars_ba4f3_43 : decode cJ6_getChars_ba4f3 43 = .ok (.aload_n 2, 1) := by decide +kernel
theorem dJ6_getChars_ba4f3_44 : decode cJ6_getChars_ba4f3 44 = .ok (.iinc 5 (-1), 3) := by decide +kernel
theorem dJ6_getChars_ba4f3_47 : decode cJ6_getChars_ba4f3 47 = .ok (.iload 5, 2) := by decide +kernel
theorem dJ6_getChars_ba4f3_49 : decode cJ6_getChars_ba4f3 49 = .ok (.getstatic 83, 3) := by decide +kernel
theorem dJ6_getChars_ba4f3_52 : decode cJ6_getChars_ba4f3 52 = .ok (.iload 4, 2) := by decide +kernel
theorem dJ6_getChars_ba4f3_54 : decode cJ6_getChars_ba4f3 54 = .ok (.baload, 1) := by decide +kernel
theorem dJ6_getChars_ba4f3_55 : decode cJ6_getChars_ba4f3 55 = .ok (.bastore, 1) := by decide +kernel
theorem dJ6_getChars_ba4f3_56 : decode cJ6_getChars_ba4f3 56 = .ok (.aload_n 2, 1) := by decide +kernel
theorem dJ6_getChars_ba4f3_57 : decode cJ6_getChars_ba4f3 57 = .ok (.iinc 5 (-1), 3) := by decide +kernel
theorem dJ6_getChars_ba4f3_60 : decode cJ6_getChars_ba4f3 60 = .ok (.iload 5, 2) := by decide +kernel
theorem dJ6_getChars_ba4f3_62 : decode cJ6_getChars_ba4f3 62 = .ok (.getstatic 87, 3) := by decide +kernel
theorem dJ6_getChars_ba4f3_65 : decode cJ6_getChars_ba4f3 65 = .ok (.iload 4, 2) := by decide +kernel
theorem dJ6_getChars_ba4f3_67 : decode cJ6_getChars_ba4f3 67 = .ok (.baload, 1) := by decide +kernel
theorem dJ6_getChars_ba4f3_68 : decode cJ6_getChars_ba4f3 68 = .ok (.bastore, 1) := by decide +kernel
theorem dJ6_getChars_ba4f3_69 : decode cJ6_getChars_ba4f3 69 = .ok (.goto (-47), 3) := by decide +kernel
theorem dJ5_append_c97b9_0 : decode cJ5_append_c97b9 0 = .ok (.aload_n 0, 1) := by decide +kernel
theorem dJ5_append_c97b9_1 : decode cJ5_append_c97b9 1 = .ok (.getfield 79, 3) := by decide +kernel
theorem dJ5_append_c97b9_4 : decode cJ5_append_c97b9 4 = .ok (.istore_n 2, 1) := by decide +kernel
theorem dJ5_append_c97b9_5 : decode cJ5_append_c97b9 5 = .ok (.iload_n 2, 1) := by decide +kernel
theorem dJ5_append_c97b9_6 : decode cJ5_append_c97b9 6 = .ok (.iload_n 1, 1) := by decide +kernel
theorem dJ5_append_c97b9_7 : decode cJ5_append_c97b9 7 = .ok (.invokestatic 245, 3) := by decide +kernel
theorem dJ5_append_c97b9_10 : decode cJ5_append_c97b9 10 = .ok (.iadd, 1) := by decide +kernel
theorem dJ5_append_c97b9_11 : decode cJ5_append_c97b9 11 = .ok (.istore_n 3, 1) := by decide +kernel
theorem dJ5_append_c97b9_12 : decode cJ5_append_c97b9 12 = .ok (.aload_n 0, 1) := by decide +kernel
theorem dJ5_append_c97b9_13 : decode cJ5_append_c97b9 13 = .ok (.iload_n 3, 1) := by decide +kernel
theorem dJ5_append_c97b9_14 : decode cJ5_append_c97b9 14 = .ok (.invokevirtual 100, 3) := by decide +kernel
theorem dJ5_append_c97b9_17 : decode cJ5_append_c97b9 17 = .ok (.aload_n 0, 1) := by decide +kernel
theorem dJ5_append_c97b9_18 : decode cJ5_append_c97b9 18 = .ok (.invokevirtual 83, 3) := by decide +kernel
theorem dJ5_append_c97b9_21 : decode cJ5_append_c97b9 21 = .ok (.ifCond .eq 16, 3) := by decide +kernel
theorem dJ5_append_c97b9_24 : decode cJ5_append_c97b9 24 = .ok (.iload_n 1, 1) := by decide +kernel
theorem dJ5_append_c97b9_25 : decode cJ5_append_c97b9 25 = .ok (.iload_n 3, 1) := by decide +kernel
theorem dJ5_append_c97b9_26 : decode cJ5_append_c97b9 26 = .ok (.aload_n 0, 1) := by decide +kernel
theorem dJ5_append_c97b9_27 : decode cJ5_append_c97b9 27 = .ok (.getfield 15, 3) := by decide +kernel
theorem dJ5_append_c97b9_30 : decode cJ5_append_c97b9 30 = .ok (.invokestatic 248, 3) := by decide +kernel
theorem dJ5_append_c97b9_33 : decode cJ5_append_c97b9 33 = .ok (.pop, 1) := by decide +kernel
theorem dJ5_append_c97b9_34 : decode cJ5_append_c97b9 34 = .ok (.goto 14, 3) := by decide +kernel
theorem dJ5_append_c97b9_48 : decode cJ5_append_c97b9 48 = .ok (.aload_n 0, 1) := by decide +kernel
theorem dJ5_append_c97b9_49 : decode cJ5_append_c97b9 49 = .ok (.iload_n 3, 1) := by decide +kernel
theorem dJ5_append_c97b9_50 : decode cJ5_append_c97b9 50 = .ok (.putfield 79, 3) := by decide +kernel
theorem dJ5_append_c97b9_53 : decode cJ5_append_c97b9 53 = .ok (.aload_n 0, 1) := by decide +kernel
theorem dJ5_append_c97b9_54 : decode cJ5_append_c97b9 54 = .ok (.areturn, 1) := by decide +kernel
theorem dJ4_append_bf812_0 : decode cJ4_append_bf812 0 = .ok (.aload_n 0, 1) := by decide +kernel
theorem dJ4_append_bf812_1 : decode cJ4_append_bf812 1 = .ok (.iload_n 1, 1) := by decide +kernel
theorem dJ4_append_bf812_2 : decode cJ4_append_bf812 2 = .ok (.invokespecial 53, 3) := by decide +kernel
theorem dJ4_append_bf812_5 : decode cJ4_append_bf812 5 = .ok (.pop, 1) := by decide +kernel
theorem dJ4_append_bf812_6 : decode cJ4_append_bf812 6 = .ok (.aload_n 0, 1) := by decide +kernel
theorem dJ4_append_bf812_7 : decode cJ4_append_bf812 7 = .ok (.areturn, 1) := by decide +kernel
theorem dJ1_canEncode_fc78d_0 : decode cJ1_canEncode_fc78d 0 = .ok (.iload_n 0, 1) := by decide +kernel
theorem dJ1_canEncode_fc78d_1 : decode cJ1_canEncode_fc78d 1 = .ok (.sipush 255, 3) := by decide +kernel
theorem dJ1_canEncode_fc78d_4 : decode cJ1_canEncode_fc78d 4 = .ok (.if_icmp .gt 7, 3) := by decide +kernel
theorem dJ1_canEncode_fc78d_7 : decode cJ1_canEncode_fc78d 7 = .ok (.iconst 1, 1) := by decide +kernel
theorem dJ1_canEncode_fc78d_8 : decode cJ1_canEncode_fc78d 8 = .ok (.goto 4, 3) := by decide +kernel
theorem dJ1_canEncode_fc78d_12 : decode cJ1_canEncode_fc78d 12 = .ok (.ireturn, 1) := by decide +kernel
theorem dJ5_append_3fe6f_0 : decode cJ5_append_3fe6f 0 = .ok (.aload_n 0, 1) := by decide +kernel
theorem dJ5_append_3fe6f_1 : decode cJ5_append_3fe6f 1 = .ok (.aload_n 0, 1) := by decide +kernel
theorem dJ5_append_3fe6f_2 : decode cJ5_append_3fe6f 2 = .ok (.getfield 79, 3) := by decide +kernel
theorem dJ5_append_3fe6f_5 : decode cJ5_append_3fe6f 5 = .ok (.iconst 1, 1) := by decide +kernel
theorem dJ5_append_3fe6f_6 : decode cJ5_append_3fe6f 6 = .ok (.iadd, 1) := by decide +kernel
theorem dJ5_append_3fe6f_7 : decode cJ5_append_3fe6f 7 = .ok (.invokevirtual 100, 3) := by decide +kernel
theorem dJ5_append_3fe6f_10 : decode cJ5_append_3fe6f 10 = .ok (.aload_n 0, 1) := by decide +kernel
theorem dJ5_append_3fe6f_11 : decode cJ5_append_3fe6f 11 = .ok (.invokevirtual 83, 3) := by decide +kernel
theorem dJ5_append_3fe6f_14 : decode cJ5_append_3fe6f 14 = .ok (.ifCond .eq 31, 3) := by decide +kernel
theorem dJ5_append_3fe6f_17 : decode cJ5_append_3fe6f 17 = .ok (.iload_n 1, 1) := by decide +kernel
theorem dJ5_append_3fe6f_18 : decode cJ5_append_3fe6f 18 = .ok (.invokestatic 191, 3) := by decide +kernel
theorem dJ5_append_3fe6f_21 : decode cJ5_append_3fe6f 21 = .ok (.ifCond .eq 24, 3) := by decide +kernel
theorem dJ5_append_3fe6f_24 : decode cJ5_append_3fe6f 24 = .ok (.aload_n 0, 1) := by decide +kernel
theorem dJ5_append_3fe6f_25 : decode cJ5_append_3fe6f 25 = .ok (.getfield 15, 3) := by decide +kernel
theorem dJ5_append_3fe6f_28 : decode cJ5_append_3fe6f 28 = .ok (.aload_n 0, 1) := by decide +kernel
theorem dJ5_append_3fe6f_29 : decode cJ5_append_3fe6f 29 = .ok (.dup, 1) := by decide +kernel
theorem dJ5_append_3fe6f_30 : decode cJ5_append_3fe6f 30 = .ok (.getfield 79, 3) := by decide +kernel
theorem dJ5_append_3fe6f_33 : decode cJ5_append_3fe6f 33 = .ok (.dup_x1, 1) := by decide +kernel
theorem dJ5_append_3fe6f_34 : decode cJ5_append_3fe6f 34 = .ok (.iconst 1, 1) := by decide +kernel
theorem dJ5_append_3fe6f_35 : decode cJ5_append_3fe6f 35 = .ok (.iadd, 1) := by decide +kernel
theorem dJ5_append_3fe6f_36 : decode cJ5_append_3fe6f 36 = .ok (.putfield 79, 3) := by decide +kernel
theorem dJ5_append_3fe6f_39 : decode cJ5_append_3fe6f 39 = .ok (.iload_n 1, 1) := by decide +kernel
theorem dJ5_append_3fe6f_40 : decode cJ5_append_3fe6f 40 = .ok (.i2b, 1) := by decide +kernel
theorem dJ5_append_3fe6f_41 : decode cJ5_append_3fe6f 41 = .ok (.bastore, 1) := by decide +kernel
theorem dJ5_append_3fe6f_42 : decode cJ5_append_3fe6f 42 = .ok (.goto 33, 3) := by decide +kernel
theorem dJ5_append_3fe6f_75 : decode cJ5_append_3fe6f 75 = .ok (.aload_n 0, 1) := by decide +kernel
theorem dJ5_append_3fe6f_76 : decode cJ5_append_3fe6f 76 = .ok (.areturn, 1) := by decide +kernel
theorem dJ4_append_cf468_0 : decode cJ4_append_cf468 0 = .ok (.aload_n 0, 1) := by decide +kernel
theorem dJ4_append_cf468_1 : decode cJ4_append_cf468 1 = .ok (.iload_n 1, 1) := by decide +kernel
theorem dJ4_append_cf468_2 : decode cJ4_append_cf468 2 = .ok (.invokespecial 50, 3) := by decide +kernel
theorem dJ4_append_cf468_5 : decode cJ4_append_cf468 5 = .ok (.pop, 1) := by decide +kernel
theorem dJ4_append_cf468_6 : decode cJ4_append_cf468 6 = .ok (.aload_n 0, 1) := by decide +kernel
theorem dJ4_append_cf468_7 : decode cJ4_append_cf468 7 = .ok (.areturn, 1) := by decide +kernel
theorem dJ5_init_d00df_0 : decode cJ5_init_d00df 0 = .ok (.aload_n 0, 1) := by decide +kernel
theorem dJ5_init_d00df_1 : decode cJ5_init_d00df 1 = .ok (.invokespecial 3, 3) := by decide +kernel
theorem dJ5_init_d00df_4 : decode cJ5_init_d00df 4 = .ok (.getstatic 18, 3) := by decide +kernel
theorem dJ5_init_d00df_7 : decode cJ5_init_d00df 7 = .ok (.ifCond .eq 18, 3) := by decide +kernel
theorem dJ5_init_d00df_10 : decode cJ5_init_d00df 10 = .ok (.aload_n 0, 1) := by decide +kernel
theorem dJ5_init_d00df_11 : decode cJ5_init_d00df 11 = .ok (.iload_n 1, 1) := by decide +kernel
theorem dJ5_init_d00df_12 : decode cJ5_init_d00df 12 = .ok (.newarray .byte, 2) := by decide +kernel
theorem dJ5_init_d00df_14 : decode cJ5_init_d00df 14 = .ok (.putfield 15, 3) := by decide +kernel
theorem dJ5_init_d00df_17 : decode cJ5_init_d00df 17 = .ok (.aload_n 0, 1) := by decide +kernel
theorem dJ5_init_d00df_18 : decode cJ5_init_d00df 18 = .ok (.iconst 0, 1) := by decide +kernel
theorem dJ5_init_d00df_19 : decode cJ5_init_d00df 19 = .ok (.putfield 22, 3) := by decide +kernel
theorem dJ5_init_d00df_22 : decode cJ5_init_d00df 22 = .ok (.goto 16, 3) := by decide +kernel
theorem dJ5_init_d00df_38 : decode cJ5_init_d00df 38 = .ok (.return_, 1) := by decide +kernel
theorem dJ4_init_da8c8_0 : decode cJ4_init_da8c8 0 = .ok (.aload_n 0, 1) := by decide +kernel
theorem dJ4_init_da8c8_1 : decode cJ4_init_da8c8 1 = .ok (.bipush 16, 2) := by decide +kernel
theorem dJ4_init_da8c8_3 : decode cJ4_init_da8c8 3 = .ok (.invokespecial 1, 3) := by decide +kernel
theorem dJ4_init_da8c8_6 : decode cJ4_init_da8c8 6 = .ok (.return_, 1) := by decide +kernel
theorem dJ7_checkLength_df160_0 : decode cJ7_checkLength_df160 0 = .ok (.iload_n 1, 1) := by decide +kernel
theorem dJ7_checkLength_df160_1 : decode cJ7_checkLength_df160 1 = .ok (.iload_n 0, 1) := by decide +kernel
theorem dJ7_checkLength_df160_2 : decode cJ7_checkLength_df160 2 = .ok (.if_icmp .ge 35, 3) := by decide +kernel
theorem dJ7_checkLength_df160_37 : decode cJ7_checkLength_df160 37 = .ok (.return_, 1) := by decide +kernel
theorem dJ7_copyOfRangeByte_39247_0 : decode cJ7_copyOfRangeByte_39247 0 = .ok (.iload_n 1, 1) := by decide +kernel
theorem dJ7_copyOfRangeByte_39247_1 : decode cJ7_copyOfRangeByte_39247 1 = .ok (.iload_n 2, 1) := by decide +kernel
theorem dJ7_copyOfRangeByte_39247_2 : decode cJ7_copyOfRangeByte_39247 2 = .ok (.invokestatic 343, 3) := by decide +kernel
theorem dJ7_copyOfRangeByte_39247_5 : decode cJ7_copyOfRangeByte_39247 5 = .ok (.iload_n 2, 1) := by decide +kernel
theorem dJ7_copyOfRangeByte_39247_6 : decode cJ7_copyOfRangeByte_39247 6 = .ok (.iload_n 1, 1) := by decide +kernel
theorem dJ7_copyOfRangeByte_39247_7 : decode cJ7_copyOfRangeByte_39247 7 = .ok (.isub, 1) := by decide +kernel
theorem dJ7_copyOfRangeByte_39247_8 : decode cJ7_copyOfRangeByte_39247 8 = .ok (.istore_n 3, 1) := by decide +kernel
theorem dJ7_copyOfRangeByte_39247_9 : decode cJ7_copyOfRangeByte_39247 9 = .ok (.iload_n 3, 1) := by decide +kernel
theorem dJ7_copyOfRangeByte_39247_10 : decode cJ7_copyOfRangeByte_39247 10 = .ok (.newarray .byte, 2) := by decide +kernel
theorem dJ7_copyOfRangeByte_39247_12 : decode cJ7_copyOfRangeByte_39247 12 = .ok (.astore 4, 2) := by decide +kernel
theorem dJ7_copyOfRangeByte_39247_14 : decode cJ7_copyOfRangeByte_39247 14 = .ok (.aload_n 0, 1) := by decide +kernel
theorem dJ7_copyOfRangeByte_39247_15 : decode cJ7_copyOfRangeByte_39247 15 = .ok (.iload_n 1, 1) := by decide +kernel
theorem dJ7_copyOfRangeByte_39247_16 : decode cJ7_copyOfRangeByte_39247 16 = .ok (.aload 4, 2) := by decide +kernel
theorem dJ7_copyOfRangeByte_39247_18 : decode cJ7_copyOfRangeByte_39247 18 = .ok (.iconst 0, 1) := by decide +kernel
theorem dJ7_copyOfRangeByte_39247_19 : decode cJ7_copyOfRangeByte_39247 19 = .ok (.aload_n 0, 1) := by decide +kernel
theorem dJ7_copyOfRangeByte_39247_20 : decode cJ7_copyOfRangeByte_39247 20 = .ok (.arraylength, 1) := by decide +kernel
theorem dJ7_copyOfRangeByte_39247_21 : decode cJ7_copyOfRangeByte_39247 21 = .ok (.iload_n 1, 1) := by decide +kernel
theorem dJ7_copyOfRangeByte_39247_22 : decode cJ7_copyOfRangeByte_39247 22 = .ok (.isub, 1) := by decide +kernel
theorem dJ7_copyOfRangeByte_39247_23 : decode cJ7_copyOfRangeByte_39247 23 = .ok (.iload_n 3, 1) := by decide +kernel
theorem dJ7_copyOfRangeByte_39247_24 : decode cJ7_copyOfRangeByte_39247 24 = .ok (.invokestatic 304, 3) := by decide +kernel
theorem dJ7_copyOfRangeByte_39247_27 : decode cJ7_copyOfRangeByte_39247 27 = .ok (.invokestatic 150, 3) := by decide +kernel
theorem dJ7_copyOfRangeByte_39247_30 : decode cJ7_copyOfRangeByte_39247 30 = .ok (.aload 4, 2) := by decide +kernel
theorem dJ7_copyOfRangeByte_39247_32 : decode cJ7_copyOfRangeByte_39247 32 = .ok (.areturn, 1) := by decide +kernel
theorem dJ7_copyOfRange_39247_0 : decode cJ7_copyOfRange_39247 0 = .ok (.iload_n 1, 1) := by decide +kernel
theorem dJ7_copyOfRange_39247_1 : decode cJ7_copyOfRange_39247 1 = .ok (.ifCond .ne 9, 3) := by decide +kernel
theorem dJ7_copyOfRange_39247_4 : decode cJ7_copyOfRange_39247 4 = .ok (.iload_n 2, 1) := by decide +kernel
theorem dJ7_copyOfRange_39247_5 : decode cJ7_copyOfRange_39247 5 = .ok (.aload_n 0, 1) := by decide +kernel
theorem dJ7_copyOfRange_39247_6 : decode cJ7_copyOfRange_39247 6 = .ok (.arraylength, 1) := by decide +kernel
theorem dJ7_copyOfRange_39247_7 : decode cJ7_copyOfRange_39247 7 = .ok (.if_icmp .eq 10, 3) := by decide +kernel
theorem dJ7_copyOfRange_39247_17 : decode cJ7_copyOfRange_39247 17 = .ok (.aload_n 0, 1) := by decide +kernel
theorem dJ7_copyOfRange_39247_18 : decode cJ7_copyOfRange_39247 18 = .ok (.invokevirtual 310, 3) := by decide +kernel
theorem dJ7_copyOfRange_39247_21 : decode cJ7_copyOfRange_39247 21 = .ok (.checkcast 311, 3) := by decide +kernel
theorem dJ7_copyOfRange_39247_24 : decode cJ7_copyOfRange_39247 24 = .ok (.areturn, 1) := by decide +kernel
theorem dJ7_copyOfRange_39247_10 : decode cJ7_copyOfRange_39247 10 = .ok (.aload_n 0, 1) := by decide +kernel
theorem dJ7_copyOfRange_39247_11 : decode cJ7_copyOfRange_39247 11 = .ok (.iload_n 1, 1) := by decide +kernel
theorem dJ7_copyOfRange_39247_12 : decode cJ7_copyOfRange_39247 12 = .ok (.iload_n 2, 1) := by decide +kernel
theorem dJ7_copyOfRange_39247_13 : decode cJ7_copyOfRange_39247 13 = .ok (.invokestatic 339, 3) := by decide +kernel
theorem dJ7_copyOfRange_39247_16 : decode cJ7_copyOfRange_39247 16 = .ok (.areturn, 1) := by decide +kernel
theorem dJ0_init_db425_0 : decode cJ0_init_db425 0 = .ok (.aload_n 0, 1) := by decide +kernel
theorem dJ0_init_db425_1 : decode cJ0_init_db425 1 = .ok (.invokespecial 1, 3) := by decide +kernel
theorem dJ0_init_db425_4 : decode cJ0_init_db425 4 = .ok (.aload_n 1, 1) := by decide +kernel
theorem dJ0_init_db425_5 : decode cJ0_init_db425 5 = .ok (.invokevirtual 552, 3) := by decide +kernel
theorem dJ0_init_db425_8 : decode cJ0_init_db425 8 = .ok (.astore_n 3, 1) := by decide +kernel
theorem dJ0_init_db425_9 : decode cJ0_init_db425 9 = .ok (.aload_n 1, 1) := by decide +kernel
theorem dJ0_init_db425_10 : decode cJ0_init_db425 10 = .ok (.invokevirtual 549, 3) := by decide +kernel
theorem dJ0_init_db425_13 : decode cJ0_init_db425 13 = .ok (.istore 4, 2) := by decide +kernel
theorem dJ0_init_db425_15 : decode cJ0_init_db425 15 = .ok (.aload_n 1, 1) := by decide +kernel
theorem dJ0_init_db425_16 : decode cJ0_init_db425 16 = .ok (.invokevirtual 1047, 3) := by decide +kernel
theorem dJ0_init_db425_19 : decode cJ0_init_db425 19 = .ok (.ifCond .eq 22, 3) := by decide +kernel
theorem dJ0_init_db425_22 : decode cJ0_init_db425 22 = .ok (.aload_n 0, 1) := by decide +kernel
theorem dJ0_init_db425_23 : decode cJ0_init_db425 23 = .ok (.iconst 0, 1) := by decide +kernel
theorem dJ0_init_db425_24 : decode cJ0_init_db425 24 = .ok (.putfield 15, 3) := by decide +kernel
theorem dJ0_init_db425_27 : decode cJ0_init_db425 27 = .ok (.aload_n 0, 1) := by decide +kernel
theorem dJ0_init_db425_28 : decode cJ0_init_db425 28 = .ok (.aload_n 3, 1) := by decide +kernel
theorem dJ0_init_db425_29 : decode cJ0_init_db425 29 = .ok (.iconst 0, 1) := by decide +kernel
theorem dJ0_init_db425_30 : decode cJ0_init_db425 30 = .ok (.iload 4, 2) := by decide +kernel
theorem dJ0_init_db425_32 : decode cJ0_init_db425 32 = .ok (.invokestatic 54, 3) := by decide +kernel
theorem dJ0_init_db425_35 : decode cJ0_init_db425 35 = .ok (.putfield 9, 3) := by decide +kernel
theorem dJ0_init_db425_38 : decode cJ0_init_db425 38 = .ok (.goto 59, 3) := by decide +kernel
theorem dJ0_init_db425_97 : decode cJ0_init_db425 97 = .ok (.return_, 1) := by decide +kernel
theorem dJ0_init_81219_0 : decode cJ0_init_81219 0 = .ok (.aload_n 0, 1) := by decide +kernel
theorem dJ0_init_81219_1 : decode cJ0_init_81219 1 = .ok (.aload_n 1, 1) := by decide +kernel
theorem dJ0_init_81219_2 : decode cJ0_init_81219 2 = .ok (.aconst_null, 1) := by decide +kernel
theorem dJ0_init_81219_3 : decode cJ0_init_81219 3 = .ok (.invokespecial 489, 3) := by decide +kernel
theorem dJ0_init_81219_6 : decode cJ0_init_81219 6 = .ok (.return_, 1) := by decide +kernel
theorem dJ4_toString_0e30d_0 : decode cJ4_toString_0e30d 0 = .ok (.new 18, 3) := by decide +kernel
theorem dJ4_toString_0e30d_3 : decode cJ4_toString_0e30d 3 = .ok (.dup, 1) := by decide +kernel
theorem dJ4_toString_0e30d_4 : decode cJ4_toString_0e30d 4 = .ok (.aload_n 0, 1) := by decide +kernel
theorem dJ4_toString_0e30d_5 : decode cJ4_toString_0e30d 5 = .ok (.invokespecial 137, 3) := by decide +kernel
theorem dJ4_toString_0e30d_8 : decode cJ4_toString_0e30d 8 = .ok (.areturn, 1) := by decide +kernel
set_option maxHeartbeats 1000000 in
set_option maxRecDepth 100000 in
theorem k_size {l : Launch} {g : GL} {Z : Nat} {v : Nat} {ws : va_W} {xs : List Txt3} (hv : v < 10000) : Cj l g 1 yJ6_stringSize_0f7a4 cJ6_stringSize_0f7a4 4 (some .int) 0 0 Z [.int (nI v)] (ws) (xs) (Pk g (some (.int (nI (dg v)))) ws) := by
  refine Met.ofW (cc := cJ6_stringSize_0f7a4) (maxL := 4) (ret := (some .int)) (by decide) rfl ?_
  intro p e s m args below meth c s₁ B hml hv
  obtain ⟨rfl, hE, hLo, hZb, hZs, hP, hX⟩ := hv
  have hr : meth.sig.returnType = (some .int) := B.returns
  have C : Cx l g p s m meth c cJ6_stringSize_0f7a4 4 RJ6 := ⟨B.exec, B.bytes, hml, findClass_of_methodNamed B.named, hE, hLo, B.notSynchronized⟩
  have S : SJ g Z s (ws) (xs) s.heap [] := ⟨hP, va_S.rf, hZb, hZs, hX⟩
  have hx := C.1
  have hb := C.2.1
  have hl := lv_entry ([.int (nI v)]) (n := 4) (Nat.le_of_ble_eq_true rfl)
  rw [lg_entry_eq]
  generalize (lg_sl ([.int (nI v)]) ++ List.replicate (4 - (lg_sl ([.int (nI v)])).length) Slot.unset).toArray = ls at hl ⊢
  have hl : lv_has ls 4 [(0, .int (nI v))] := hl
  generalize hH : s.heap = H at S ⊢
  generalize hlc : ([] : List Loc) = locs at S ⊢
  have hq : v < 10 ∨ (¬ v < 10 ∧ v < 100) ∨ (¬ v < 10 ∧ ¬ v < 100 ∧ v < 1000) ∨ (¬ v < 10 ∧ ¬ v < 100 ∧ ¬ v < 1000) := by omega
  rcases hq with h1 | ⟨h1, h2⟩ | ⟨h1, h2, h3⟩ | ⟨h1, h2, h3⟩
  · refine lv_iconst (v := nI 1) hx hb dJ6_stringSize_0f7a4_0 (by decide) ?_
    refine lv_istore_n (lv' := [(1, .int (nI 1)), (0, .int (nI v))]) hx hb dJ6_stringSize_0f7a4_1 rfl hl (by decide) rfl (fun ls hl => ?_)
    refine lv_iload_n hx hb dJ6_stringSize_0f7a4_2 rfl (lv_at hl 1 rfl) ?_
    refine lv_if_lt (tgt := 11) hx hb dJ6_stringSize_0f7a4_3 (by decide) (fun c => absurd c (nI_pos (by omega))) (fun _ => ?_)
    refine lv_iconst (v := nI 0) hx hb dJ6_stringSize_0f7a4_6 (by decide) ?_
    refine lv_istore_n (lv' := [(1, .int (nI 0)), (0, .int (nI v))]) hx hb dJ6_stringSize_0f7a4_7 rfl hl (by decide) rfl (fun ls hl => ?_)
    refine lv_iload_n hx hb dJ6_stringSize_0f7a4_8 rfl (lv_at hl 1 rfl) ?_
    refine lv_ineg hx hb dJ6_stringSize_0f7a4_9 ?_
    refine lv_istore_n (lv' := [(0, .int (-(nI v))), (1, .int (nI 0))]) hx hb dJ6_stringSize_0f7a4_10 rfl hl (by decide) rfl (fun ls hl => ?_)
    refine lv_bipush (v := (-10 : Int32)) hx hb dJ6_stringSize_0f7a4_11 (by decide) ?_
    refine lv_istore_n (lv' := [(2, .int ((-10 : Int32))), (0, .int (-(nI v))), (1, .int (nI 0))]) hx hb dJ6_stringSize_0f7a4_13 rfl hl (by decide) rfl (fun ls hl => ?_)
    refine lv_iconst (v := nI 1) hx hb dJ6_stringSize_0f7a4_14 (by decide) ?_
    refine lv_istore_n (lv' := [(3, .int (nI 1)), (2, .int ((-10 : Int32))), (0, .int (-(nI v))), (1, .int (nI 0))]) hx hb dJ6_stringSize_0f7a4_15 rfl hl (by decide) rfl (fun ls hl => ?_)
    refine lv_iload_n hx hb dJ6_stringSize_0f7a4_16 rfl (lv_at hl 0 rfl) ?_
    refine lv_bipush (v := nI 10) hx hb dJ6_stringSize_0f7a4_17 (by decide) ?_
    refine lv_icmp_ge (tgt := 42) hx hb dJ6_stringSize_0f7a4_19 (by decide) (fun c => absurd c (by decide)) (fun _ => ?_)
    refine lv_iload_n hx hb dJ6_stringSize_0f7a4_22 rfl (lv_at hl 2 rfl) ?_
    refine lv_iload_n hx hb dJ6_stringSize_0f7a4_23 rfl (lv_at hl 1 rfl) ?_
    refine lv_icmp_le (tgt := 31) hx hb dJ6_stringSize_0f7a4_24 (by decide) (fun c => absurd c (by rw [show ((-10) : Int32) = -nI 10 from by decide, sb_nle (by omega) (by omega)]; omega)) (fun _ => ?_)
    refine lv_iload_n hx hb dJ6_stringSize_0f7a4_27 rfl (lv_at hl 0 rfl) ?_
    refine lv_iload_n hx hb dJ6_stringSize_0f7a4_28 rfl (lv_at hl 3 rfl) ?_
    refine lv_iadd hx hb dJ6_stringSize_0f7a4_29 ?_
    refine lv_topi (fun y9 hy9 => ?_)
    obtain rfl : y9 = nI 1 := hy9.trans (by decide)
    exact z_iret C S.2.1 hr rfl ⟨by rw [show dg v = 1 from if_pos h1], S.1⟩ dJ6_stringSize_0f7a4_30
  · refine lv_iconst (v := nI 1) hx hb dJ6_stringSize_0f7a4_0 (by decide) ?_
    refine lv_istore_n (lv' := [(1, .int (nI 1)), (0, .int (nI v))]) hx hb dJ6_stringSize_0f7a4_1 rfl hl (by decide) rfl (fun ls hl => ?_)
    refine lv_iload_n hx hb dJ6_stringSize_0f7a4_2 rfl (lv_at hl 1 rfl) ?_
    refine lv_if_lt (tgt := 11) hx hb dJ6_stringSize_0f7a4_3 (by decide) (fun c => absurd c (nI_pos (by omega))) (fun _ => ?_)
    refine lv_iconst (v := nI 0) hx hb dJ6_stringSize_0f7a4_6 (by decide) ?_
    refine lv_istore_n (lv' := [(1, .int (nI 0)), (0, .int (nI v))]) hx hb dJ6_stringSize_0f7a4_7 rfl hl (by decide) rfl (fun ls hl => ?_)
    refine lv_iload_n hx hb dJ6_stringSize_0f7a4_8 rfl (lv_at hl 1 rfl) ?_
    refine lv_ineg hx hb dJ6_stringSize_0f7a4_9 ?_
    refine lv_istore_n (lv' := [(0, .int (-(nI v))), (1, .int (nI 0))]) hx hb dJ6_stringSize_0f7a4_10 rfl hl (by decide) rfl (fun ls hl => ?_)
    refine lv_bipush (v := (-10 : Int32)) hx hb dJ6_stringSize_0f7a4_11 (by decide) ?_
    refine lv_istore_n (lv' := [(2, .int ((-10 : Int32))), (0, .int (-(nI v))), (1, .int (nI 0))]) hx hb dJ6_stringSize_0f7a4_13 rfl hl (by decide) rfl (fun ls hl => ?_)
    refine lv_iconst (v := nI 1) hx hb dJ6_stringSize_0f7a4_14 (by decide) ?_
    refine lv_istore_n (lv' := [(3, .int (nI 1)), (2, .int ((-10 : Int32))), (0, .int (-(nI v))), (1, .int (nI 0))]) hx hb dJ6_stringSize_0f7a4_15 rfl hl (by decide) rfl (fun ls hl => ?_)
    refine lv_iload_n hx hb dJ6_stringSize_0f7a4_16 rfl (lv_at hl 0 rfl) ?_
    refine lv_bipush (v := nI 10) hx hb dJ6_stringSize_0f7a4_17 (by decide) ?_
    refine lv_icmp_ge (tgt := 42) hx hb dJ6_stringSize_0f7a4_19 (by decide) (fun c => absurd c (by decide)) (fun _ => ?_)
    refine lv_iload_n hx hb dJ6_stringSize_0f7a4_22 rfl (lv_at hl 2 rfl) ?_
    refine lv_iload_n hx hb dJ6_stringSize_0f7a4_23 rfl (lv_at hl 1 rfl) ?_
    refine lv_icmp_le (tgt := 31) hx hb dJ6_stringSize_0f7a4_24 (by decide) (fun _ => ?_) (fun c => absurd (by rw [show ((-10) : Int32) = -nI 10 from by decide, sb_nle (by omega) (by omega)]; omega) c)
    refine lv_bipush (v := nI 10) hx hb dJ6_stringSize_0f7a4_31 (by decide) ?_
    refine lv_iload_n hx hb dJ6_stringSize_0f7a4_33 rfl (lv_at hl 1 rfl) ?_
    refine lv_imul hx hb dJ6_stringSize_0f7a4_34 ?_
    refine lv_topi (fun y9 hy9 => ?_)
    obtain rfl : y9 = (-100 : Int32) := hy9.trans (by decide)
    refine lv_istore_n (lv' := [(2, .int ((-100 : Int32))), (3, .int (nI 1)), (0, .int (-(nI v))), (1, .int (nI 0))]) hx hb dJ6_stringSize_0f7a4_35 rfl hl (by decide) rfl (fun ls hl => ?_)
    refine lv_iinc (v := nI 2) (lv' := [(3, .int (nI 2)), (2, .int ((-100 : Int32))), (0, .int (-(nI v))), (1, .int (nI 0))]) hx hb dJ6_stringSize_0f7a4_36 hl (k := 1) rfl (by decide) (by decide) rfl (fun ls hl => ?_)
    refine lv_goto (tgt := 16) hx hb dJ6_stringSize_0f7a4_39 (by decide) ?_
    refine lv_iload_n hx hb dJ6_stringSize_0f7a4_16 rfl (lv_at hl 0 rfl) ?_
    refine lv_bipush (v := nI 10) hx hb dJ6_stringSize_0f7a4_17 (by decide) ?_
    refine lv_icmp_ge (tgt := 42) hx hb dJ6_stringSize_0f7a4_19 (by decide) (fun c => absurd c (by decide)) (fun _ => ?_)
    refine lv_iload_n hx hb dJ6_stringSize_0f7a4_22 rfl (lv_at hl 2 rfl) ?_
    refine lv_iload_n hx hb dJ6_stringSize_0f7a4_23 rfl (lv_at hl 1 rfl) ?_
    refine lv_icmp_le (tgt := 31) hx hb dJ6_stringSize_0f7a4_24 (by decide) (fun c => absurd c (by rw [show ((-100) : Int32) = -nI 100 from by decide, sb_nle (by omega) (by omega)]; omega)) (fun _ => ?_)
    refine lv_iload_n hx hb dJ6_stringSize_0f7a4_27 rfl (lv_at hl 0 rfl) ?_
    refine lv_iload_n hx hb dJ6_stringSize_0f7a4_28 rfl (lv_at hl 3 rfl) ?_
    refine lv_iadd hx hb dJ6_stringSize_0f7a4_29 ?_
    refine lv_topi (fun y9 hy9 => ?_)
    obtain rfl : y9 = nI 2 := hy9.trans (by decide)
    exact z_iret C S.2.1 hr rfl ⟨by rw [show dg v = 2 from by unfold dg; rw [if_neg h1, if_pos h2]], S.1⟩ dJ6_stringSize_0f7a4_30
  · refine lv_iconst (v := nI 1) hx hb dJ6_stringSize_0f7a4_0 (by decide) ?_
    refine lv_istore_n (lv' := [(1, .int (nI 1)), (0, .int (nI v))]) hx hb dJ6_stringSize_0f7a4_1 rfl hl (by decide) rfl (fun ls hl => ?_)
    refine lv_iload_n hx hb dJ6_stringSize_0f7a4_2 rfl (lv_at hl 1 rfl) ?_
    refine lv_if_lt (tgt := 11) hx hb dJ6_stringSize_0f7a4_3 (by decide) (fun c => absurd c (nI_pos (by omega))) (fun _ => ?_)
    refine lv_iconst (v := nI 0) hx hb dJ6_stringSize_0f7a4_6 (by decide) ?_
    refine lv_istore_n (lv' := [(1, .int (nI 0)), (0, .int (nI v))]) hx hb dJ6_stringSize_0f7a4_7 rfl hl (by decide) rfl (fun ls hl => ?_)
    refine lv_iload_n hx hb dJ6_stringSize_0f7a4_8 rfl (lv_at hl 1 rfl) ?_
    refine lv_ineg hx hb dJ6_stringSize_0f7a4_9 ?_
    refine lv_istore_n (lv' := [(0, .int (-(nI v))), (1, .int (nI 0))]) hx hb dJ6_stringSize_0f7a4_10 rfl hl (by decide) rfl (fun ls hl => ?_)
    refine lv_bipush (v := (-10 : Int32)) hx hb dJ6_stringSize_0f7a4_11 (by decide) ?_
    refine lv_istore_n (lv' := [(2, .int ((-10 : Int32))), (0, .int (-(nI v))), (1, .int (nI 0))]) hx hb dJ6_stringSize_0f7a4_13 rfl hl (by decide) rfl (fun ls hl => ?_)
    refine lv_iconst (v := nI 1) hx hb dJ6_stringSize_0f7a4_14 (by decide) ?_
    refine lv_istore_n (lv' := [(3, .int (nI 1)), (2, .int ((-10 : Int32))), (0, .int (-(nI v))), (1, .int (nI 0))]) hx hb dJ6_stringSize_0f7a4_15 rfl hl (by decide) rfl (fun ls hl => ?_)
    refine lv_iload_n hx hb dJ6_stringSize_0f7a4_16 rfl (lv_at hl 0 rfl) ?_
    refine lv_bipush (v := nI 10) hx hb dJ6_stringSize_0f7a4_17 (by decide) ?_
    refine lv_icmp_ge (tgt := 42) hx hb dJ6_stringSize_0f7a4_19 (by decide) (fun c => absurd c (by decide)) (fun _ => ?_)
    refine lv_iload_n hx hb dJ6_stringSize_0f7a4_22 rfl (lv_at hl 2 rfl) ?_
    refine lv_iload_n hx hb dJ6_stringSize_0f7a4_23 rfl (lv_at hl 1 rfl) ?_
    refine lv_icmp_le (tgt := 31) hx hb dJ6_stringSize_0f7a4_24 (by decide) (fun _ => ?_) (fun c => absurd (by rw [show ((-10) : Int32) = -nI 10 from by decide, sb_nle (by omega) (by omega)]; omega) c)
    refine lv_bipush (v := nI 10) hx hb dJ6_stringSize_0f7a4_31 (by decide) ?_
    refine lv_iload_n hx hb dJ6_stringSize_0f7a4_33 rfl (lv_at hl 1 rfl) ?_
    refine lv_imul hx hb dJ6_stringSize_0f7a4_34 ?_
    refine lv_topi (fun y9 hy9 => ?_)
    obtain rfl : y9 = (-100 : Int32) := hy9.trans (by decide)
    refine lv_istore_n (lv' := [(2, .int ((-100 : Int32))), (3, .int (nI 1)), (0, .int (-(nI v))), (1, .int (nI 0))]) hx hb dJ6_stringSize_0f7a4_35 rfl hl (by decide) rfl (fun ls hl => ?_)
    refine lv_iinc (v := nI 2) (lv' := [(3, .int (nI 2)), (2, .int ((-100 : Int32))), (0, .int (-(nI v))), (1, .int (nI 0))]) hx hb dJ6_stringSize_0f7a4_36 hl (k := 1) rfl (by decide) (by decide) rfl (fun ls hl => ?_)
    refine lv_goto (tgt := 16) hx hb dJ6_stringSize_0f7a4_39 (by decide) ?_
    refine lv_iload_n hx hb dJ6_stringSize_0f7a4_16 rfl (lv_at hl 0 rfl) ?_
    refine lv_bipush (v := nI 10) hx hb dJ6_stringSize_0f7a4_17 (by decide) ?_
    refine lv_icmp_ge (tgt := 42) hx hb dJ6_stringSize_0f7a4_19 (by decide) (fun c => absurd c (by decide)) (fun _ => ?_)
    refine lv_iload_n hx hb dJ6_stringSize_0f7a4_22 rfl (lv_at hl 2 rfl) ?_
    refine lv_iload_n hx hb dJ6_stringSize_0f7a4_23 rfl (lv_at hl 1 rfl) ?_
    refine lv_icmp_le (tgt := 31) hx hb dJ6_stringSize_0f7a4_24 (by decide) (fun _ => ?_) (fun c => absurd (by rw [show ((-100) : Int32) = -nI 100 from by decide, sb_nle (by omega) (by omega)]; omega) c)
    refine lv_bipush (v := nI 10) hx hb dJ6_stringSize_0f7a4_31 (by decide) ?_
    refine lv_iload_n hx hb dJ6_stringSize_0f7a4_33 rfl (lv_at hl 1 rfl) ?_
    refine lv_imul hx hb dJ6_stringSize_0f7a4_34 ?_
    refine lv_topi (fun y9 hy9 => ?_)
    obtain rfl : y9 = (-1000 : Int32) := hy9.trans (by decide)
    refine lv_istore_n (lv' := [(2, .int ((-1000 : Int32))), (3, .int (nI 2)), (0, .int (-(nI v))), (1, .int (nI 0))]) hx hb dJ6_stringSize_0f7a4_35 rfl hl (by decide) rfl (fun ls hl => ?_)
    refine lv_iinc (v := nI 3) (lv' := [(3, .int (nI 3)), (2, .int ((-1000 : Int32))), (0, .int (-(nI v))), (1, .int (nI 0))]) hx hb dJ6_stringSize_0f7a4_36 hl (k := 1) rfl (by decide) (by decide) rfl (fun ls hl => ?_)
    refine lv_goto (tgt := 16) hx hb dJ6_stringSize_0f7a4_39 (by decide) ?_
    refine lv_iload_n hx hb dJ6_stringSize_0f7a4_16 rfl (lv_at hl 0 rfl) ?_
    refine lv_bipush (v := nI 10) hx hb dJ6_stringSize_0f7a4_17 (by decide) ?_
    refine lv_icmp_ge (tgt := 42) hx hb dJ6_stringSize_0f7a4_19 (by decide) (fun c => absurd c (by decide)) (fun _ => ?_)
    refine lv_iload_n hx hb dJ6_stringSize_0f7a4_22 rfl (lv_at hl 2 rfl) ?_
    refine lv_iload_n hx hb dJ6_stringSize_0f7a4_23 rfl (lv_at hl 1 rfl) ?_
    refine lv_icmp_le (tgt := 31) hx hb dJ6_stringSize_0f7a4_24 (by decide) (fun c => absurd c (by rw [show ((-1000) : Int32) = -nI 1000 from by decide, sb_nle (by omega) (by omega)]; omega)) (fun _ => ?_)
    refine lv_iload_n hx hb dJ6_stringSize_0f7a4_27 rfl (lv_at hl 0 rfl) ?_
    refine lv_iload_n hx hb dJ6_stringSize_0f7a4_28 rfl (lv_at hl 3 rfl) ?_
    refine lv_iadd hx hb dJ6_stringSize_0f7a4_29 ?_
    refine lv_topi (fun y9 hy9 => ?_)
    obtain rfl : y9 = nI 3 := hy9.trans (by decide)
    exact z_iret C S.2.1 hr rfl ⟨by rw [show dg v = 3 from by unfold dg; rw [if_neg h1, if_neg h2, if_pos h3]], S.1⟩ dJ6_stringSize_0f7a4_30
  · refine lv_iconst (v := nI 1) hx hb dJ6_stringSize_0f7a4_0 (by decide) ?_
    refine lv_istore_n (lv' := [(1, .int (nI 1)), (0, .int (nI v))]) hx hb dJ6_stringSize_0f7a4_1 rfl hl (by decide) rfl (fun ls hl => ?_)
    refine lv_iload_n hx hb dJ6_stringSize_0f7a4_2 rfl (lv_at hl 1 rfl) ?_
    refine lv_if_lt (tgt := 11) hx hb dJ6_stringSize_0f7a4_3 (by decide) (fun c => absurd c (nI_pos (by omega))) (fun _ => ?_)
    refine lv_iconst (v := nI 0) hx hb dJ6_stringSize_0f7a4_6 (by decide) ?_
    refine lv_istore_n (lv' := [(1, .int (nI 0)), (0, .int (nI v))]) hx hb dJ6_stringSize_0f7a4_7 rfl hl (by decide) rfl (fun ls hl => ?_)
    refine lv_iload_n hx hb dJ6_stringSize_0f7a4_8 rfl (lv_at hl 1 rfl) ?_
    refine lv_ineg hx hb dJ6_stringSize_0f7a4_9 ?_
    refine lv_istore_n (lv' := [(0, .int (-(nI v))), (1, .int (nI 0))]) hx hb dJ6_stringSize_0f7a4_10 rfl hl (by decide) rfl (fun ls hl => ?_)
    refine lv_bipush (v := (-10 : Int32)) hx hb dJ6_stringSize_0f7a4_11 (by decide) ?_
    refine lv_istore_n (lv' := [(2, .int ((-10 : Int32))), (0, .int (-(nI v))), (1, .int (nI 0))]) hx hb dJ6_stringSize_0f7a4_13 rfl hl (by decide) rfl (fun ls hl => ?_)
    refine lv_iconst (v := nI 1) hx hb dJ6_stringSize_0f7a4_14 (by decide) ?_
    refine lv_istore_n (lv' := [(3, .int (nI 1)), (2, .int ((-10 : Int32))), (0, .int (-(nI v))), (1, .int (nI 0))]) hx hb dJ6_stringSize_0f7a4_15 rfl hl (by decide) rfl (fun ls hl => ?_)
    refine lv_iload_n hx hb dJ6_stringSize_0f7a4_16 rfl (lv_at hl 0 rfl) ?_
    refine lv_bipush (v := nI 10) hx hb dJ6_stringSize_0f7a4_17 (by decide) ?_
    refine lv_icmp_ge (tgt := 42) hx hb dJ6_stringSize_0f7a4_19 (by decide) (fun c => absurd c (by decide)) (fun _ => ?_)
    refine lv_iload_n hx hb dJ6_stringSize_0f7a4_22 rfl (lv_at hl 2 rfl) ?_
    refine lv_iload_n hx hb dJ6_stringSize_0f7a4_23 rfl (lv_at hl 1 rfl) ?_
    refine lv_icmp_le (tgt := 31) hx hb dJ6_stringSize_0f7a4_24 (by decide) (fun _ => ?_) (fun c => absurd (by rw [show ((-10) : Int32) = -nI 10 from by decide, sb_nle (by omega) (by omega)]; omega) c)
    refine lv_bipush (v := nI 10) hx hb dJ6_stringSize_0f7a4_31 (by decide) ?_
    refine lv_iload_n hx hb dJ6_stringSize_0f7a4_33 rfl (lv_at hl 1 rfl) ?_
    refine lv_imul hx hb dJ6_stringSize_0f7a4_34 ?_
    refine lv_topi (fun y9 hy9 => ?_)
    obtain rfl : y9 = (-100 : Int32) := hy9.trans (by decide)
    refine lv_istore_n (lv' := [(2, .int ((-100 : Int32))), (3, .int (nI 1)), (0, .int (-(nI v))), (1, .int (nI 0))]) hx hb dJ6_stringSize_0f7a4_35 rfl hl (by decide) rfl (fun ls hl => ?_)
    refine lv_iinc (v := nI 2) (lv' := [(3, .int (nI 2)), (2, .int ((-100 : Int32))), (0, .int (-(nI v))), (1, .int (nI 0))]) hx hb dJ6_stringSize_0f7a4_36 hl (k := 1) rfl (by decide) (by decide) rfl (fun ls hl => ?_)
    refine lv_goto (tgt := 16) hx hb dJ6_stringSize_0f7a4_39 (by decide) ?_
    refine lv_iload_n hx hb dJ6_stringSize_0f7a4_16 rfl (lv_at hl 0 rfl) ?_
    refine lv_bipush (v := nI 10) hx hb dJ6_stringSize_0f7a4_17 (by decide) ?_
    refine lv_icmp_ge (tgt := 42) hx hb dJ6_stringSize_0f7a4_19 (by decide) (fun c => absurd c (by decide)) (fun _ => ?_)
    refine lv_iload_n hx hb dJ6_stringSize_0f7a4_22 rfl (lv_at hl 2 rfl) ?_
    refine lv_iload_n hx hb dJ6_stringSize_0f7a4_23 rfl (lv_at hl 1 rfl) ?_
    refine lv_icmp_le (tgt := 31) hx hb dJ6_stringSize_0f7a4_24 (by decide) (fun _ => ?_) (fun c => absurd (by rw [show ((-100) : Int32) = -nI 100 from by decide, sb_nle (by omega) (by omega)]; omega) c)
    refine lv_bipush (v := nI 10) hx hb dJ6_stringSize_0f7a4_31 (by decide) ?_
    refine lv_iload_n hx hb dJ6_stringSize_0f7a4_33 rfl (lv_at hl 1 rfl) ?_
    refine lv_imul hx hb dJ6_stringSize_0f7a4_34 ?_
    refine lv_topi (fun y9 hy9 => ?_)
    obtain rfl : y9 = (-1000 : Int32) := hy9.trans (by decide)
    refine lv_istore_n (lv' := [(2, .int ((-1000 : Int32))), (3, .int (nI 2)), (0, .int (-(nI v))), (1, .int (nI 0))]) hx hb dJ6_stringSize_0f7a4_35 rfl hl (by decide) rfl (fun ls hl => ?_)
    refine lv_iinc (v := nI 3) (lv' := [(3, .int (nI 3)), (2, .int ((-1000 : Int32))), (0, .int (-(nI v))), (1, .int (nI 0))]) hx hb dJ6_stringSize_0f7a4_36 hl (k := 1) rfl (by decide) (by decide) rfl (fun ls hl => ?_)
    refine lv_goto (tgt := 16) hx hb dJ6_stringSize_0f7a4_39 (by decide) ?_
    refine lv_iload_n hx hb dJ6_stringSize_0f7a4_16 rfl (lv_at hl 0 rfl) ?_
    refine lv_bipush (v := nI 10) hx hb dJ6_stringSize_0f7a4_17 (by decide) ?_
    refine lv_icmp_ge (tgt := 42) hx hb dJ6_stringSize_0f7a4_19 (by decide) (fun c => absurd c (by decide)) (fun _ => ?_)
    refine lv_iload_n hx hb dJ6_stringSize_0f7a4_22 rfl (lv_at hl 2 rfl) ?_
    refine lv_iload_n hx hb dJ6_stringSize_0f7a4_23 rfl (lv_at hl 1 rfl) ?_
    refine lv_icmp_le (tgt := 31) hx hb dJ6_stringSize_0f7a4_24 (by decide) (fun _ => ?_) (fun c => absurd (by rw [show ((-1000) : Int32) = -nI 1000 from by decide, sb_nle (by omega) (by omega)]; omega) c)
    refine lv_bipush (v := nI 10) hx hb dJ6_stringSize_0f7a4_31 (by decide) ?_
    refine lv_iload_n hx hb dJ6_stringSize_0f7a4_33 rfl (lv_at hl 1 rfl) ?_
    refine lv_imul hx hb dJ6_stringSize_0f7a4_34 ?_
    refine lv_topi (fun y9 hy9 => ?_)
    obtain rfl : y9 = (-10000 : Int32) := hy9.trans (by decide)
    refine lv_istore_n (lv' := [(2, .int ((-10000 : Int32))), (3, .int (nI 3)), (0, .int (-(nI v))), (1, .int (nI 0))]) hx hb dJ6_stringSize_0f7a4_35 rfl hl (by decide) rfl (fun ls hl => ?_)
    refine lv_iinc (v := nI 4) (lv' := [(3, .int (nI 4)), (2, .int ((-10000 : Int32))), (0, .int (-(nI v))), (1, .int (nI 0))]) hx hb dJ6_stringSize_0f7a4_36 hl (k := 1) rfl (by decide) (by decide) rfl (fun ls hl => ?_)
    refine lv_goto (tgt := 16) hx hb dJ6_stringSize_0f7a4_39 (by decide) ?_
    refine lv_iload_n hx hb dJ6_stringSize_0f7a4_16 rfl (lv_at hl 0 rfl) ?_
    refine lv_bipush (v := nI 10) hx hb dJ6_stringSize_0f7a4_17 (by decide) ?_
    refine lv_icmp_ge (tgt := 42) hx hb dJ6_stringSize_0f7a4_19 (by decide) (fun c => absurd c (by decide)) (fun _ => ?_)
    refine lv_iload_n hx hb dJ6_stringSize_0f7a4_22 rfl (lv_at hl 2 rfl) ?_
    refine lv_iload_n hx hb dJ6_stringSize_0f7a4_23 rfl (lv_at hl 1 rfl) ?_
    refine lv_icmp_le (tgt := 31) hx hb dJ6_stringSize_0f7a4_24 (by decide) (fun c => absurd c (by rw [show ((-10000) : Int32) = -nI 10000 from by decide, sb_nle (by omega) (by omega)]; omega)) (fun _ => ?_)
    refine lv_iload_n hx hb dJ6_stringSize_0f7a4_27 rfl (lv_at hl 0 rfl) ?_
    refine lv_iload_n hx hb dJ6_stringSize_0f7a4_28 rfl (lv_at hl 3 rfl) ?_
    refine lv_iadd hx hb dJ6_stringSize_0f7a4_29 ?_
    refine lv_topi (fun y9 hy9 => ?_)
    obtain rfl : y9 = nI 4 := hy9.trans (by decide)
    exact z_iret C S.2.1 hr rfl ⟨by rw [show dg v = 4 from by unfold dg; rw [if_neg h1, if_neg h2, if_neg h3]], S.1⟩ dJ6_stringSize_0f7a4_30
set_option maxHeartbeats 1000000 in
set_option maxRecDepth 100000 in
theorem k_chars {l : Launch} {g : GL} {Z : Nat} {v b w n mm : Nat} {f : Nat → Int32} {xs : List Txt3} (hv : v < 10000) (hle : n + dg v ≤ mm) (hm : mm ≤ 1010) (hf : sb_Fit f) (hD : va_D (zA Z) (sb2 g b w n mm f [])) : Cj l g 1 yJ6_getChars_ba4f3 cJ6_getChars_ba4f3 7 (some .int) 0 0 Z [.int (nI v), .int (nI (n + dg v)), .ref w] (sb2 g b w n mm f []) (xs) (fun v9 H => ∃ r, v9 = some (.int r) ∧ ∃ f1, va_P (gD g) vwCl (sb2 g b w n mm f1 []) H ∧ va_D (zA Z) (sb2 g b w n mm f1 []) ∧ sb_Fit f1 ∧ (∀ j, j < n → f1 j = f j) ∧ ∀ j, j < dg v → f1 (n + j) = nI ((dec v).getD j 0)) := by
  refine Met.ofW (cc := cJ6_getChars_ba4f3) (maxL := 7) (ret := (some .int)) (by decide) rfl ?_
  intro p e s m args below meth c s₁ B hml hv
  obtain ⟨rfl, hE, hLo, hZb, hZs, hP, hX⟩ := hv
  have hr : meth.sig.returnType = (some .int) := B.returns
  have C : Cx l g p s m meth c cJ6_getChars_ba4f3 7 RJ6 := ⟨B.exec, B.bytes, hml, findClass_of_methodNamed B.named, hE, hLo, B.notSynchronized⟩
  have S : SJ g Z s (sb2 g b w n mm f []) (xs) s.heap [] := ⟨hP, va_S.rf, hZb, hZs, hX⟩
  have hx := C.1
  have hb := C.2.1
  have hl := lv_entry ([.int (nI v), .int (nI (n + dg v)), .ref w]) (n := 7) (Nat.le_of_ble_eq_true rfl)
  rw [lg_entry_eq]
  generalize (lg_sl ([.int (nI v), .int (nI (n + dg v)), .ref w]) ++ List.replicate (7 - (lg_sl ([.int (nI v), .int (nI (n + dg v)), .ref w])).length) Slot.unset).toArray = ls at hl ⊢
  have hl : lv_has ls 7 [(0, .int (nI v)), (1, .int (nI (n + dg v))), (2, .ref w)] := hl
  generalize hH : s.heap = H at S ⊢
  generalize hlc : ([] : List Loc) = locs at S ⊢
  have hq : v < 10 ∨ (¬ v < 10 ∧ v < 100) ∨ (¬ v < 10 ∧ ¬ v < 100 ∧ v < 1000) ∨ (¬ v < 10 ∧ ¬ v < 100 ∧ ¬ v < 1000) := by omega
  rcases hq with h1 | ⟨h1, h2⟩ | ⟨h1, h2, h3⟩ | ⟨h1, h2, h3⟩
  · have hdg : dg v = 1 := if_pos h1
    have hdec : dec v = [48 + v] := if_pos h1
    refine lv_iload_n hx hb dJ6_getChars_ba4f3_0 rfl (lv_at hl 1 rfl) ?_
    refine lv_istore (lv' := [(5, .int (nI (n + dg v))), (0, .int (nI v)), (1, .int (nI (n + dg v))), (2, .ref w)]) hx hb dJ6_getChars_ba4f3_1 hl (by decide) rfl (fun ls hl => ?_)
    refine lv_iload_n hx hb dJ6_getChars_ba4f3_3 rfl (lv_at hl 1 rfl) ?_
    refine lv_if_ge (tgt := 11) hx hb dJ6_getChars_ba4f3_4 (by decide) (fun _ => ?_) (fun c => absurd (nI_pos' (by omega)) c)
    refine lv_iconst (v := nI 0) hx hb dJ6_getChars_ba4f3_11 (by decide) ?_
    refine lv_istore (lv' := [(6, .int (nI 0)), (5, .int (nI (n + dg v))), (0, .int (nI v)), (1, .int (nI (n + dg v))), (2, .ref w)]) hx hb dJ6_getChars_ba4f3_12 hl (by decide) rfl (fun ls hl => ?_)
    refine lv_iload hx hb dJ6_getChars_ba4f3_14 (lv_at hl 0 rfl) ?_
    refine lv_if_ne (tgt := 22) hx hb dJ6_getChars_ba4f3_16 (by decide) (fun c => absurd (by decide) c) (fun _ => ?_)
    refine lv_iload_n hx hb dJ6_getChars_ba4f3_19 rfl (lv_at hl 2 rfl) ?_
    refine lv_ineg hx hb dJ6_getChars_ba4f3_20 ?_
    refine lv_istore_n (lv' := [(0, .int (-(nI v))), (6, .int (nI 0)), (5, .int (nI (n + dg v))), (1, .int (nI (n + dg v))), (2, .ref w)]) hx hb dJ6_getChars_ba4f3_21 rfl hl (by decide) rfl (fun ls hl => ?_)
    refine lv_iload_n hx hb dJ6_getChars_ba4f3_22 rfl (lv_at hl 0 rfl) ?_
    refine lv_bipush (v := (-100 : Int32)) hx hb dJ6_getChars_ba4f3_23 (by decide) ?_
    refine lv_icmp_gt (tgt := 72) hx hb dJ6_getChars_ba4f3_25 (by decide) (fun _ => ?_) (fun c => absurd (by rw [show ((-100 : Int32)) = -nI 100 from by decide, sb_nlt (by omega) (by omega)]; omega) c)
    refine lv_aload_n hx hb dJ6_getChars_ba4f3_72 rfl (lv_at hl 4 rfl) ?_
    refine lv_iinc (v := nI (n + dg v - 1)) (lv' := [(5, .int (nI (n + dg v - 1))), (0, .int (-(nI v))), (6, .int (nI 0)), (1, .int (nI (n + dg v))), (2, .ref w)]) hx hb dJ6_getChars_ba4f3_73 hl (k := 2) rfl (sb_m1 (by omega)) (by decide) rfl (fun ls hl => ?_)
    refine lv_iload hx hb dJ6_getChars_ba4f3_76 (lv_at hl 0 rfl) ?_
    refine z_ones C S jf_RJ6_83 dJ6_getChars_ba4f3_78 ?_
    refine lv_iload_n hx hb dJ6_getChars_ba4f3_81 rfl (lv_at hl 1 rfl) ?_
    refine lv_ineg hx hb dJ6_getChars_ba4f3_82 ?_
    refine lv_topi (fun y9 hy9 => ?_)
    obtain rfl : y9 = nI v := hy9.trans (Int32.neg_neg)
    refine z_onesAt C S (k := v) (by omega) dJ6_getChars_ba4f3_83 ?_
    refine z_bast C S hD 1 rfl (i := n + dg v - 1) (v := 48 + v % 10) (by omega) (by omega) (by omega) dJ6_getChars_ba4f3_84 (fun H1 locs1 S hD => ?_)
    refine lv_iload_n hx hb dJ6_getChars_ba4f3_85 rfl (lv_at hl 1 rfl) ?_
    refine lv_bipush (v := (-9 : Int32)) hx hb dJ6_getChars_ba4f3_86 (by decide) ?_
    refine lv_icmp_ge (tgt := 104) hx hb dJ6_getChars_ba4f3_88 (by decide) (fun _ => ?_) (fun c => absurd (by rw [show ((-9 : Int32)) = -nI 9 from by decide, sb_nle (by omega) (by omega)]; omega) c)
    refine lv_iload hx hb dJ6_getChars_ba4f3_104 (lv_at hl 2 rfl) ?_
    refine lv_if_eq (tgt := 118) hx hb dJ6_getChars_ba4f3_106 (by decide) (fun _ => ?_) (fun c => absurd (by decide) c)
    refine lv_iload hx hb dJ6_getChars_ba4f3_118 (lv_at hl 0 rfl) ?_
    refine z_iret C S.2.1 hr rfl ⟨_, rfl, (upd f (n + dg v - 1) (nI (48 + v % 10))), S.1, hD, (sb_fitU hf (asc_f (by omega))), fun j hj => ?_, fun j hj => ?_⟩ dJ6_getChars_ba4f3_120
    · simp only [upd]
      repeat rw [if_neg (by omega)]
    · rw [hdg] at hj
      rw [hdec, hdg]
      simp only [upd]
      have hj2 : j = 0 := by omega
      rcases hj2 with rfl
      · simp only [List.getD_cons_zero, List.getD_cons_succ]
        repeat (first | rw [if_pos (by omega)] | rw [if_neg (by omega)])
        try exact congrArg nI (by omega)
  · have hdg : dg v = 2 := by unfold dg; rw [if_neg h1, if_pos h2]
    have hdec : dec v = [48 + v / 10, 48 + v % 10] := by unfold dec; rw [if_neg h1, if_pos h2]
    refine lv_iload_n hx hb dJ6_getChars_ba4f3_0 rfl (lv_at hl 1 rfl) ?_
    refine lv_istore (lv' := [(5, .int (nI (n + dg v))), (0, .int (nI v)), (1, .int (nI (n + dg v))), (2, .ref w)]) hx hb dJ6_getChars_ba4f3_1 hl (by decide) rfl (fun ls hl => ?_)
    refine lv_iload_n hx hb dJ6_getChars_ba4f3_3 rfl (lv_at hl 1 rfl) ?_
    refine lv_if_ge (tgt := 11) hx hb dJ6_getChars_ba4f3_4 (by decide) (fun _ => ?_) (fun c => absurd (nI_pos' (by omega)) c)
    refine lv_iconst (v := nI 0) hx hb dJ6_getChars_ba4f3_11 (by decide) ?_
    refine lv_istore (lv' := [(6, .int (nI 0)), (5, .int (nI (n + dg v))), (0, .int (nI v)), (1, .int (nI (n + dg v))), (2, .ref w)]) hx hb dJ6_getChars_ba4f3_12 hl (by decide) rfl (fun ls hl => ?_)
    refine lv_iload hx hb dJ6_getChars_ba4f3_14 (lv_at hl 0 rfl) ?_
    refine lv_if_ne (tgt := 22) hx hb dJ6_getChars_ba4f3_16 (by decide) (fun c => absurd (by decide) c) (fun _ => ?_)
    refine lv_iload_n hx hb dJ6_getChars_ba4f3_19 rfl (lv_at hl 2 rfl) ?_
    refine lv_ineg hx hb dJ6_getChars_ba4f3_20 ?_
    refine lv_istore_n (lv' := [(0, .int (-(nI v))), (6, .int (nI 0)), (5, .int (nI (n + dg v))), (1, .int (nI (n + dg v))), (2, .ref w)]) hx hb dJ6_getChars_ba4f3_21 rfl hl (by decide) rfl (fun ls hl => ?_)
    refine lv_iload_n hx hb dJ6_getChars_ba4f3_22 rfl (lv_at hl 0 rfl) ?_
    refine lv_bipush (v := (-100 : Int32)) hx hb dJ6_getChars_ba4f3_23 (by decide) ?_
    refine lv_icmp_gt (tgt := 72) hx hb dJ6_getChars_ba4f3_25 (by decide) (fun _ => ?_) (fun c => absurd (by rw [show ((-100 : Int32)) = -nI 100 from by decide, sb_nlt (by omega) (by omega)]; omega) c)
    refine lv_aload_n hx hb dJ6_getChars_ba4f3_72 rfl (lv_at hl 4 rfl) ?_
    refine lv_iinc (v := nI (n + dg v - 1)) (lv' := [(5, .int (nI (n + dg v - 1))), (0, .int (-(nI v))), (6, .int (nI 0)), (1, .int (nI (n + dg v))), (2, .ref w)]) hx hb dJ6_getChars_ba4f3_73 hl (k := 2) rfl (sb_m1 (by omega)) (by decide) rfl (fun ls hl => ?_)
    refine lv_iload hx hb dJ6_getChars_ba4f3_76 (lv_at hl 0 rfl) ?_
    refine z_ones C S jf_RJ6_83 dJ6_getChars_ba4f3_78 ?_
    refine lv_iload_n hx hb dJ6_getChars_ba4f3_81 rfl (lv_at hl 1 rfl) ?_
    refine lv_ineg hx hb dJ6_getChars_ba4f3_82 ?_
    refine lv_topi (fun y9 hy9 => ?_)
    obtain rfl : y9 = nI v := hy9.trans (Int32.neg_neg)
    refine z_onesAt C S (k := v) (by omega) dJ6_getChars_ba4f3_83 ?_
    refine z_bast C S hD 1 rfl (i := n + dg v - 1) (v := 48 + v % 10) (by omega) (by omega) (by omega) dJ6_getChars_ba4f3_84 (fun H1 locs1 S hD => ?_)
    refine lv_iload_n hx hb dJ6_getChars_ba4f3_85 rfl (lv_at hl 1 rfl) ?_
    refine lv_bipush (v := (-9 : Int32)) hx hb dJ6_getChars_ba4f3_86 (by decide) ?_
    refine lv_icmp_ge (tgt := 104) hx hb dJ6_getChars_ba4f3_88 (by decide) (fun c => absurd c (by rw [show ((-9 : Int32)) = -nI 9 from by decide, sb_nle (by omega) (by omega)]; omega)) (fun _ => ?_)
    refine lv_aload_n hx hb dJ6_getChars_ba4f3_91 rfl (lv_at hl 4 rfl) ?_
    refine lv_iinc (v := nI (n + dg v - 1 - 1)) (lv' := [(5, .int (nI (n + dg v - 1 - 1))), (0, .int (-(nI v))), (6, .int (nI 0)), (1, .int (nI (n + dg v))), (2, .ref w)]) hx hb dJ6_getChars_ba4f3_92 hl (k := 0) rfl (sb_m1 (by omega)) (by decide) rfl (fun ls hl => ?_)
    refine lv_iload hx hb dJ6_getChars_ba4f3_95 (lv_at hl 0 rfl) ?_
    refine z_tens C S jf_RJ6_87 dJ6_getChars_ba4f3_97 ?_
    refine lv_iload_n hx hb dJ6_getChars_ba4f3_100 rfl (lv_at hl 1 rfl) ?_
    refine lv_ineg hx hb dJ6_getChars_ba4f3_101 ?_
    refine lv_topi (fun y9 hy9 => ?_)
    obtain rfl : y9 = nI v := hy9.trans (Int32.neg_neg)
    refine z_tensAt C S (k := v) (by omega) dJ6_getChars_ba4f3_102 ?_
    refine z_bast C S hD 1 rfl (i := n + dg v - 1 - 1) (v := 48 + v / 10) (by omega) (by omega) (by omega) dJ6_getChars_ba4f3_103 (fun H1 locs1 S hD => ?_)
    refine lv_iload hx hb dJ6_getChars_ba4f3_104 (lv_at hl 2 rfl) ?_
    refine lv_if_eq (tgt := 118) hx hb dJ6_getChars_ba4f3_106 (by decide) (fun _ => ?_) (fun c => absurd (by decide) c)
    refine lv_iload hx hb dJ6_getChars_ba4f3_118 (lv_at hl 0 rfl) ?_
    refine z_iret C S.2.1 hr rfl ⟨_, rfl, (upd (upd f (n + dg v - 1) (nI (48 + v % 10))) (n + dg v - 1 - 1) (nI (48 + v / 10))), S.1, hD, (sb_fitU (sb_fitU hf (asc_f (by omega))) (asc_f (by omega))), fun j hj => ?_, fun j hj => ?_⟩ dJ6_getChars_ba4f3_120
    · simp only [upd]
      repeat rw [if_neg (by omega)]
    · rw [hdg] at hj
      rw [hdec, hdg]
      simp only [upd]
      have hj2 : j = 0 ∨ j = 1 := by omega
      rcases hj2 with rfl | rfl
      · simp only [List.getD_cons_zero, List.getD_cons_succ]
        repeat (first | rw [if_pos (by omega)] | rw [if_neg (by omega)])
        try exact congrArg nI (by omega)
      · simp only [List.getD_cons_zero, List.getD_cons_succ]
        repeat (first | rw [if_pos (by omega)] | rw [if_neg (by omega)])
        try exact congrArg nI (by omega)
  · have hdg : dg v = 3 := by unfold dg; rw [if_neg h1, if_neg h2, if_pos h3]
    have hdec : dec v = [48 + v / 100, 48 + v / 10 % 10, 48 + v % 10] := by unfold dec; rw [if_neg h1, if_neg h2, if_pos h3]
    refine lv_iload_n hx hb dJ6_getChars_ba4f3_0 rfl (lv_at hl 1 rfl) ?_
    refine lv_istore (lv' := [(5, .int (nI (n + dg v))), (0, .int (nI v)), (1, .int (nI (n + dg v))), (2, .ref w)]) hx hb dJ6_getChars_ba4f3_1 hl (by decide) rfl (fun ls hl => ?_)
    refine lv_iload_n hx hb dJ6_getChars_ba4f3_3 rfl (lv_at hl 1 rfl) ?_
    refine lv_if_ge (tgt := 11) hx hb dJ6_getChars_ba4f3_4 (by decide) (fun _ => ?_) (fun c => absurd (nI_pos' (by omega)) c)
    refine lv_iconst (v := nI 0) hx hb dJ6_getChars_ba4f3_11 (by decide) ?_
    refine lv_istore (lv' := [(6, .int (nI 0)), (5, .int (nI (n + dg v))), (0, .int (nI v)), (1, .int (nI (n + dg v))), (2, .ref w)]) hx hb dJ6_getChars_ba4f3_12 hl (by decide) rfl (fun ls hl => ?_)
    refine lv_iload hx hb dJ6_getChars_ba4f3_14 (lv_at hl 0 rfl) ?_
    refine lv_if_ne (tgt := 22) hx hb dJ6_getChars_ba4f3_16 (by decide) (fun c => absurd (by decide) c) (fun _ => ?_)
    refine lv_iload_n hx hb dJ6_getChars_ba4f3_19 rfl (lv_at hl 2 rfl) ?_
    refine lv_ineg hx hb dJ6_getChars_ba4f3_20 ?_
    refine lv_istore_n (lv' := [(0, .int (-(nI v))), (6, .int (nI 0)), (5, .int (nI (n + dg v))), (1, .int (nI (n + dg v))), (2, .ref w)]) hx hb dJ6_getChars_ba4f3_21 rfl hl (by decide) rfl (fun ls hl => ?_)
    refine lv_iload_n hx hb dJ6_getChars_ba4f3_22 rfl (lv_at hl 0 rfl) ?_
    refine lv_bipush (v := (-100 : Int32)) hx hb dJ6_getChars_ba4f3_23 (by decide) ?_
    refine lv_icmp_gt (tgt := 72) hx hb dJ6_getChars_ba4f3_25 (by decide) (fun c => absurd c (by rw [show ((-100 : Int32)) = -nI 100 from by decide, sb_nlt (by omega) (by omega)]; omega)) (fun _ => ?_)
    refine lv_iload_n hx hb dJ6_getChars_ba4f3_28 rfl (lv_at hl 0 rfl) ?_
    refine lv_bipush (v := nI 100) hx hb dJ6_getChars_ba4f3_29 (by decide) ?_
    refine lv_idiv hx hb dJ6_getChars_ba4f3_31 (by decide) ?_
    refine lv_topi (fun y9 hy9 => ?_)
    obtain rfl : y9 = -nI (v / 100) := hy9.trans (sb_ndiv (by omega))
    refine lv_istore_n (lv' := [(3, .int (-nI (v / 100))), (0, .int (-(nI v))), (6, .int (nI 0)), (5, .int (nI (n + dg v))), (1, .int (nI (n + dg v))), (2, .ref w)]) hx hb dJ6_getChars_ba4f3_32 rfl hl (by decide) rfl (fun ls hl => ?_)
    refine lv_iload_n hx hb dJ6_getChars_ba4f3_33 rfl (lv_at hl 0 rfl) ?_
    refine lv_bipush (v := nI 100) hx hb dJ6_getChars_ba4f3_34 (by decide) ?_
    refine lv_imul hx hb dJ6_getChars_ba4f3_36 ?_
    refine lv_iload_n hx hb dJ6_getChars_ba4f3_37 rfl (lv_at hl 1 rfl) ?_
    refine lv_isub hx hb dJ6_getChars_ba4f3_38 ?_
    refine lv_topi (fun y9 hy9 => ?_)
    obtain rfl : y9 = nI (v % 100) := hy9.trans (sb_nrem (by omega))
    refine lv_istore (lv' := [(4, .int (nI (v % 100))), (3, .int (-nI (v / 100))), (0, .int (-(nI v))), (6, .int (nI 0)), (5, .int (nI (n + dg v))), (1, .int (nI (n + dg v))), (2, .ref w)]) hx hb dJ6_getChars_ba4f3_39 hl (by decide) rfl (fun ls hl => ?_)
    refine lv_iload_n hx hb dJ6_getChars_ba4f3_41 rfl (lv_at hl 1 rfl) ?_
    refine lv_istore_n (lv' := [(0, .int (-nI (v / 100))), (4, .int (nI (v % 100))), (3, .int (-nI (v / 100))), (6, .int (nI 0)), (5, .int (nI (n + dg v))), (1, .int (nI (n + dg v))), (2, .ref w)]) hx hb dJ6_getChars_ba4f3_42 rfl hl (by decide) rfl (fun ls hl => ?_)
    refine lv_aload_n hx hb dJ6_getChars_ba4f3_43 rfl (lv_at hl 6 rfl) ?_
    refine lv_iinc (v := nI (n + dg v - 1)) (lv' := [(5, .int (nI (n + dg v - 1))), (0, .int (-nI (v / 100))), (4, .int (nI (v % 100))), (3, .int (-nI (v / 100))), (6, .int (nI 0)), (1, .int (nI (n + dg v))), (2, .ref w)]) hx hb dJ6_getChars_ba4f3_44 hl (k := 4) rfl (sb_m1 (by omega)) (by decide) rfl (fun ls hl => ?_)
    refine lv_iload hx hb dJ6_getChars_ba4f3_47 (lv_at hl 0 rfl) ?_
    refine z_ones C S jf_RJ6_83 dJ6_getChars_ba4f3_49 ?_
    refine lv_iload hx hb dJ6_getChars_ba4f3_52 (lv_at hl 2 rfl) ?_
    refine z_onesAt C S (k := (v % 100)) (by omega) dJ6_getChars_ba4f3_54 ?_
    refine z_bast C S hD 1 rfl (i := n + dg v - 1) (v := 48 + v % 100 % 10) (by omega) (by omega) (by omega) dJ6_getChars_ba4f3_55 (fun H1 locs1 S hD => ?_)
    refine lv_aload_n hx hb dJ6_getChars_ba4f3_56 rfl (lv_at hl 6 rfl) ?_
    refine lv_iinc (v := nI (n + dg v - 1 - 1)) (lv' := [(5, .int (nI (n + dg v - 1 - 1))), (0, .int (-nI (v / 100))), (4, .int (nI (v % 100))), (3, .int (-nI (v / 100))), (6, .int (nI 0)), (1, .int (nI (n + dg v))), (2, .ref w)]) hx hb dJ6_getChars_ba4f3_57 hl (k := 0) rfl (sb_m1 (by omega)) (by decide) rfl (fun ls hl => ?_)
    refine lv_iload hx hb dJ6_getChars_ba4f3_60 (lv_at hl 0 rfl) ?_
    refine z_tens C S jf_RJ6_87 dJ6_getChars_ba4f3_62 ?_
    refine lv_iload hx hb dJ6_getChars_ba4f3_65 (lv_at hl 2 rfl) ?_
    refine z_tensAt C S (k := (v % 100)) (by omega) dJ6_getChars_ba4f3_67 ?_
    refine z_bast C S hD 1 rfl (i := n + dg v - 1 - 1) (v := 48 + v % 100 / 10) (by omega) (by omega) (by omega) dJ6_getChars_ba4f3_68 (fun H1 locs1 S hD => ?_)
    refine lv_goto (tgt := 22) hx hb dJ6_getChars_ba4f3_69 (by decide) ?_
    refine lv_iload_n hx hb dJ6_getChars_ba4f3_22 rfl (lv_at hl 1 rfl) ?_
    refine lv_bipush (v := (-100 : Int32)) hx hb dJ6_getChars_ba4f3_23 (by decide) ?_
    refine lv_icmp_gt (tgt := 72) hx hb dJ6_getChars_ba4f3_25 (by decide) (fun _ => ?_) (fun c => absurd (by rw [show ((-100 : Int32)) = -nI 100 from by decide, sb_nlt (by omega) (by omega)]; omega) c)
    refine lv_aload_n hx hb dJ6_getChars_ba4f3_72 rfl (lv_at hl 6 rfl) ?_
    refine lv_iinc (v := nI (n + dg v - 1 - 1 - 1)) (lv' := [(5, .int (nI (n + dg v - 1 - 1 - 1))), (0, .int (-nI (v / 100))), (4, .int (nI (v % 100))), (3, .int (-nI (v / 100))), (6, .int (nI 0)), (1, .int (nI (n + dg v))), (2, .ref w)]) hx hb dJ6_getChars_ba4f3_73 hl (k := 0) rfl (sb_m1 (by omega)) (by decide) rfl (fun ls hl => ?_)
    refine lv_iload hx hb dJ6_getChars_ba4f3_76 (lv_at hl 0 rfl) ?_
    refine z_ones C S jf_RJ6_83 dJ6_getChars_ba4f3_78 ?_
    refine lv_iload_n hx hb dJ6_getChars_ba4f3_81 rfl (lv_at hl 1 rfl) ?_
    refine lv_ineg hx hb dJ6_getChars_ba4f3_82 ?_
    refine lv_topi (fun y9 hy9 => ?_)
    obtain rfl : y9 = nI (v / 100) := hy9.trans (Int32.neg_neg)
    refine z_onesAt C S (k := (v / 100)) (by omega) dJ6_getChars_ba4f3_83 ?_
    refine z_bast C S hD 1 rfl (i := n + dg v - 1 - 1 - 1) (v := 48 + (v / 100) % 10) (by omega) (by omega) (by omega) dJ6_getChars_ba4f3_84 (fun H1 locs1 S hD => ?_)
    refine lv_iload_n hx hb dJ6_getChars_ba4f3_85 rfl (lv_at hl 1 rfl) ?_
    refine lv_bipush (v := (-9 : Int32)) hx hb dJ6_getChars_ba4f3_86 (by decide) ?_
    refine lv_icmp_ge (tgt := 104) hx hb dJ6_getChars_ba4f3_88 (by decide) (fun _ => ?_) (fun c => absurd (by rw [show ((-9 : Int32)) = -nI 9 from by decide, sb_nle (by omega) (by omega)]; omega) c)
    refine lv_iload hx hb dJ6_getChars_ba4f3_104 (lv_at hl 4 rfl) ?_
    refine lv_if_eq (tgt := 118) hx hb dJ6_getChars_ba4f3_106 (by decide) (fun _ => ?_) (fun c => absurd (by decide) c)
    refine lv_iload hx hb dJ6_getChars_ba4f3_118 (lv_at hl 0 rfl) ?_
    refine z_iret C S.2.1 hr rfl ⟨_, rfl, (upd (upd (upd f (n + dg v - 1) (nI (48 + v % 100 % 10))) (n + dg v - 1 - 1) (nI (48 + v % 100 / 10))) (n + dg v - 1 - 1 - 1) (nI (48 + (v / 100) % 10))), S.1, hD, (sb_fitU (sb_fitU (sb_fitU hf (asc_f (by omega))) (asc_f (by omega))) (asc_f (by omega))), fun j hj => ?_, fun j hj => ?_⟩ dJ6_getChars_ba4f3_120
    · simp only [upd]
      repeat rw [if_neg (by omega)]
    · rw [hdg] at hj
      rw [hdec, hdg]
      simp only [upd]
      have hj2 : j = 0 ∨ j = 1 ∨ j = 2 := by omega
      rcases hj2 with rfl | rfl | rfl
      · simp only [List.getD_cons_zero, List.getD_cons_succ]
        repeat (first | rw [if_pos (by omega)] | rw [if_neg (by omega)])
        try exact congrArg nI (by omega)
      · simp only [List.getD_cons_zero, List.getD_cons_succ]
        repeat (first | rw [if_pos (by omega)] | rw [if_neg (by omega)])
        try exact congrArg nI (by omega)
      · simp only [List.getD_cons_zero, List.getD_cons_succ]
        repeat (first | rw [if_pos (by omega)] | rw [if_neg (by omega)])
        try exact congrArg nI (by omega)
  · have hdg : dg v = 4 := by unfold dg; rw [if_neg h1, if_neg h2, if_neg h3]
    have hdec : dec v = [48 + v / 1000, 48 + v / 100 % 10, 48 + v / 10 % 10, 48 + v % 10] := by unfold dec; rw [if_neg h1, if_neg h2, if_neg h3]
    refine lv_iload_n hx hb dJ6_getChars_ba4f3_0 rfl (lv_at hl 1 rfl) ?_
    refine lv_istore (lv' := [(5, .int (nI (n + dg v))), (0, .int (nI v)), (1, .int (nI (n + dg v))), (2, .ref w)]) hx hb dJ6_getChars_ba4f3_1 hl (by decide) rfl (fun ls hl => ?_)
    refine lv_iload_n hx hb dJ6_getChars_ba4f3_3 rfl (lv_at hl 1 rfl) ?_
    refine lv_if_ge (tgt := 11) hx hb dJ6_getChars_ba4f3_4 (by decide) (fun _ => ?_) (fun c => absurd (nI_pos' (by omega)) c)
    refine lv_iconst (v := nI 0) hx hb dJ6_getChars_ba4f3_11 (by decide) ?_
    refine lv_istore (lv' := [(6, .int (nI 0)), (5, .int (nI (n + dg v))), (0, .int (nI v)), (1, .int (nI (n + dg v))), (2, .ref w)]) hx hb dJ6_getChars_ba4f3_12 hl (by decide) rfl (fun ls hl => ?_)
    refine lv_iload hx hb dJ6_getChars_ba4f3_14 (lv_at hl 0 rfl) ?_
    refine lv_if_ne (tgt := 22) hx hb dJ6_getChars_ba4f3_16 (by decide) (fun c => absurd (by decide) c) (fun _ => ?_)
    refine lv_iload_n hx hb dJ6_getChars_ba4f3_19 rfl (lv_at hl 2 rfl) ?_
    refine lv_ineg hx hb dJ6_getChars_ba4f3_20 ?_
    refine lv_istore_n (lv' := [(0, .int (-(nI v))), (6, .int (nI 0)), (5, .int (nI (n + dg v))), (1, .int (nI (n + dg v))), (2, .ref w)]) hx hb dJ6_getChars_ba4f3_21 rfl hl (by decide) rfl (fun ls hl => ?_)
    refine lv_iload_n hx hb dJ6_getChars_ba4f3_22 rfl (lv_at hl 0 rfl) ?_
    refine lv_bipush (v := (-100 : Int32)) hx hb dJ6_getChars_ba4f3_23 (by decide) ?_
    refine lv_icmp_gt (tgt := 72) hx hb dJ6_getChars_ba4f3_25 (by decide) (fun c => absurd c (by rw [show ((-100 : Int32)) = -nI 100 from by decide, sb_nlt (by omega) (by omega)]; omega)) (fun _ => ?_)
    refine lv_iload_n hx hb dJ6_getChars_ba4f3_28 rfl (lv_at hl 0 rfl) ?_
    refine lv_bipush (v := nI 100) hx hb dJ6_getChars_ba4f3_29 (by decide) ?_
    refine lv_idiv hx hb dJ6_getChars_ba4f3_31 (by decide) ?_
    refine lv_topi (fun y9 hy9 => ?_)
    obtain rfl : y9 = -nI (v / 100) := hy9.trans (sb_ndiv (by omega))
    refine lv_istore_n (lv' := [(3, .int (-nI (v / 100))), (0, .int (-(nI v))), (6, .int (nI 0)), (5, .int (nI (n + dg v))), (1, .int (nI (n + dg v))), (2, .ref w)]) hx hb dJ6_getChars_ba4f3_32 rfl hl (by decide) rfl (fun ls hl => ?_)
    refine lv_iload_n hx hb dJ6_getChars_ba4f3_33 rfl (lv_at hl 0 rfl) ?_
    refine lv_bipush (v := nI 100) hx hb dJ6_getChars_ba4f3_34 (by decide) ?_
    refine lv_imul hx hb dJ6_getChars_ba4f3_36 ?_
    refine lv_iload_n hx hb dJ6_getChars_ba4f3_37 rfl (lv_at hl 1 rfl) ?_
    refine lv_isub hx hb dJ6_getChars_ba4f3_38 ?_
    refine lv_topi (fun y9 hy9 => ?_)
    obtain rfl : y9 = nI (v % 100) := hy9.trans (sb_nrem (by omega))
    refine lv_istore (lv' := [(4, .int (nI (v % 100))), (3, .int (-nI (v / 100))), (0, .int (-(nI v))), (6, .int (nI 0)), (5, .int (nI (n + dg v))), (1, .int (nI (n + dg v))), (2, .ref w)]) hx hb dJ6_getChars_ba4f3_39 hl (by decide) rfl (fun ls hl => ?_)
    refine lv_iload_n hx hb dJ6_getChars_ba4f3_41 rfl (lv_at hl 1 rfl) ?_
    refine lv_istore_n (lv' := [(0, .int (-nI (v / 100))), (4, .int (nI (v % 100))), (3, .int (-nI (v / 100))), (6, .int (nI 0)), (5, .int (nI (n + dg v))), (1, .int (nI (n + dg v))), (2, .ref w)]) hx hb dJ6_getChars_ba4f3_42 rfl hl (by decide) rfl (fun ls hl => ?_)
    refine lv_aload_n hx hb dJ6_getChars_ba4f3_43 rfl (lv_at hl 6 rfl) ?_
    refine lv_iinc (v := nI (n + dg v - 1)) (lv' := [(5, .int (nI (n + dg v - 1))), (0, .int (-nI (v / 100))), (4, .int (nI (v % 100))), (3, .int (-nI (v / 100))), (6, .int (nI 0)), (1, .int (nI (n + dg v))), (2, .ref w)]) hx hb dJ6_getChars_ba4f3_44 hl (k := 4) rfl (sb_m1 (by omega)) (by decide) rfl (fun ls hl => ?_)
    refine lv_iload hx hb dJ6_getChars_ba4f3_47 (lv_at hl 0 rfl) ?_
    refine z_ones C S jf_RJ6_83 dJ6_getChars_ba4f3_49 ?_
    refine lv_iload hx hb dJ6_getChars_ba4f3_52 (lv_at hl 2 rfl) ?_
    refine z_onesAt C S (k := (v % 100)) (by omega) dJ6_getChars_ba4f3_54 ?_
    refine z_bast C S hD 1 rfl (i := n + dg v - 1) (v := 48 + v % 100 % 10) (by omega) (by omega) (by omega) dJ6_getChars_ba4f3_55 (fun H1 locs1 S hD => ?_)
    refine lv_aload_n hx hb dJ6_getChars_ba4f3_56 rfl (lv_at hl 6 rfl) ?_
    refine lv_iinc (v := nI (n + dg v - 1 - 1)) (lv' := [(5, .int (nI (n + dg v - 1 - 1))), (0, .int (-nI (v / 100))), (4, .int (nI (v % 100))), (3, .int (-nI (v / 100))), (6, .int (nI 0)), (1, .int (nI (n + dg v))), (2, .ref w)]) hx hb dJ6_getChars_ba4f3_57 hl (k := 0) rfl (sb_m1 (by omega)) (by decide) rfl (fun ls hl => ?_)
    refine lv_iload hx hb dJ6_getChars_ba4f3_60 (lv_at hl 0 rfl) ?_
    refine z_tens C S jf_RJ6_87 dJ6_getChars_ba4f3_62 ?_
    refine lv_iload hx hb dJ6_getChars_ba4f3_65 (lv_at hl 2 rfl) ?_
    refine z_tensAt C S (k := (v % 100)) (by omega) dJ6_getChars_ba4f3_67 ?_
    refine z_bast C S hD 1 rfl (i := n + dg v - 1 - 1) (v := 48 + v % 100 / 10) (by omega) (by omega) (by omega) dJ6_getChars_ba4f3_68 (fun H1 locs1 S hD => ?_)
    refine lv_goto (tgt := 22) hx hb dJ6_getChars_ba4f3_69 (by decide) ?_
    refine lv_iload_n hx hb dJ6_getChars_ba4f3_22 rfl (lv_at hl 1 rfl) ?_
    refine lv_bipush (v := (-100 : Int32)) hx hb dJ6_getChars_ba4f3_23 (by decide) ?_
    refine lv_icmp_gt (tgt := 72) hx hb dJ6_getChars_ba4f3_25 (by decide) (fun _ => ?_) (fun c => absurd (by rw [show ((-100 : Int32)) = -nI 100 from by decide, sb_nlt (by omega) (by omega)]; omega) c)
    refine lv_aload_n hx hb dJ6_getChars_ba4f3_72 rfl (lv_at hl 6 rfl) ?_
    refine lv_iinc (v := nI (n + dg v - 1 - 1 - 1)) (lv' := [(5, .int (nI (n + dg v - 1 - 1 - 1))), (0, .int (-nI (v / 100))), (4, .int (nI (v % 100))), (3, .int (-nI (v / 100))), (6, .int (nI 0)), (1, .int (nI (n + dg v))), (2, .ref w)]) hx hb dJ6_getChars_ba4f3_73 hl (k := 0) rfl (sb_m1 (by omega)) (by decide) rfl (fun ls hl => ?_)
    refine lv_iload hx hb dJ6_getChars_ba4f3_76 (lv_at hl 0 rfl) ?_
    refine z_ones C S jf_RJ6_83 dJ6_getChars_ba4f3_78 ?_
    refine lv_iload_n hx hb dJ6_getChars_ba4f3_81 rfl (lv_at hl 1 rfl) ?_
    refine lv_ineg hx hb dJ6_getChars_ba4f3_82 ?_
    refine lv_topi (fun y9 hy9 => ?_)
    obtain rfl : y9 = nI (v / 100) := hy9.trans (Int32.neg_neg)
    refine z_onesAt C S (k := (v / 100)) (by omega) dJ6_getChars_ba4f3_83 ?_
    refine z_bast C S hD 1 rfl (i := n + dg v - 1 - 1 - 1) (v := 48 + (v / 100) % 10) (by omega) (by omega) (by omega) dJ6_getChars_ba4f3_84 (fun H1 locs1 S hD => ?_)
    refine lv_iload_n hx hb dJ6_getChars_ba4f3_85 rfl (lv_at hl 1 rfl) ?_
    refine lv_bipush (v := (-9 : Int32)) hx hb dJ6_getChars_ba4f3_86 (by decide) ?_
    refine lv_icmp_ge (tgt := 104) hx hb dJ6_getChars_ba4f3_88 (by decide) (fun c => absurd c (by rw [show ((-9 : Int32)) = -nI 9 from by decide, sb_nle (by omega) (by omega)]; omega)) (fun _ => ?_)
    refine lv_aload_n hx hb dJ6_getChars_ba4f3_91 rfl (lv_at hl 6 rfl) ?_
    refine lv_iinc (v := nI (n + dg v - 1 - 1 - 1 - 1)) (lv' := [(5, .int (nI (n + dg v - 1 - 1 - 1 - 1))), (0, .int (-nI (v / 100))), (4, .int (nI (v % 100))), (3, .int (-nI (v / 100))), (6, .int (nI 0)), (1, .int (nI (n + dg v))), (2, .ref w)]) hx hb dJ6_getChars_ba4f3_92 hl (k := 0) rfl (sb_m1 (by omega)) (by decide) rfl (fun ls hl => ?_)
    refine lv_iload hx hb dJ6_getChars_ba4f3_95 (lv_at hl 0 rfl) ?_
    refine z_tens C S jf_RJ6_87 dJ6_getChars_ba4f3_97 ?_
    refine lv_iload_n hx hb dJ6_getChars_ba4f3_100 rfl (lv_at hl 1 rfl) ?_
    refine lv_ineg hx hb dJ6_getChars_ba4f3_101 ?_
    refine lv_topi (fun y9 hy9 => ?_)
    obtain rfl : y9 = nI (v / 100) := hy9.trans (Int32.neg_neg)
    refine z_tensAt C S (k := (v / 100)) (by omega) dJ6_getChars_ba4f3_102 ?_
    refine z_bast C S hD 1 rfl (i := n + dg v - 1 - 1 - 1 - 1) (v := 48 + (v / 100) / 10) (by omega) (by omega) (by omega) dJ6_getChars_ba4f3_103 (fun H1 locs1 S hD => ?_)
    refine lv_iload hx hb dJ6_getChars_ba4f3_104 (lv_at hl 4 rfl) ?_
    refine lv_if_eq (tgt := 118) hx hb dJ6_getChars_ba4f3_106 (by decide) (fun _ => ?_) (fun c => absurd (by decide) c)
    refine lv_iload hx hb dJ6_getChars_ba4f3_118 (lv_at hl 0 rfl) ?_
    refine z_iret C S.2.1 hr rfl ⟨_, rfl, (upd (upd (upd (upd f (n + dg v - 1) (nI (48 + v % 100 % 10))) (n + dg v - 1 - 1) (nI (48 + v % 100 / 10))) (n + dg v - 1 - 1 - 1) (nI (48 + (v / 100) % 10))) (n + dg v - 1 - 1 - 1 - 1) (nI (48 + (v / 100) / 10))), S.1, hD, (sb_fitU (sb_fitU (sb_fitU (sb_fitU hf (asc_f (by omega))) (asc_f (by omega))) (asc_f (by omega))) (asc_f (by omega))), fun j hj => ?_, fun j hj => ?_⟩ dJ6_getChars_ba4f3_120
    · simp only [upd]
      repeat rw [if_neg (by omega)]
    · rw [hdg] at hj
      rw [hdec, hdg]
      simp only [upd]
      have hj2 : j = 0 ∨ j = 1 ∨ j = 2 ∨ j = 3 := by omega
      rcases hj2 with rfl | rfl | rfl | rfl
      · simp only [List.getD_cons_zero, List.getD_cons_succ]
        repeat (first | rw [if_pos (by omega)] | rw [if_neg (by omega)])
        try exact congrArg nI (by omega)
      · simp only [List.getD_cons_zero, List.getD_cons_succ]
        repeat (first | rw [if_pos (by omega)] | rw [if_neg (by omega)])
        try exact congrArg nI (by omega)
      · simp only [List.getD_cons_zero, List.getD_cons_succ]
        repeat (first | rw [if_pos (by omega)] | rw [if_neg (by omega)])
        try exact congrArg nI (by omega)
      · simp only [List.getD_cons_zero, List.getD_cons_succ]
        repeat (first | rw [if_pos (by omega)] | rw [if_neg (by omega)])
        try exact congrArg nI (by omega)
set_option maxHeartbeats 1000000 in
set_option maxRecDepth 100000 in
theorem k_appI5 {l : Launch} {g : GL} {Z : Nat} {b w mm v : Nat} {u : List Nat} {f : Nat → Int32} {xs : List Txt3} (hv : v < 10000) (h5 : u.length + dg v ≤ 500) (hum : u.length ≤ mm) (hm : mm ≤ 1010) (hf : sb_Fit f) (hu : ∀ j, j < u.length → f j = nI (u.getD j 0)) (hD : va_D (zA Z) (sb2 g b w u.length mm f [])) : Cj l g 5 yJ5_append_c97b9 cJ5_append_c97b9 4 (some (.object "java/lang/AbstractStringBuilder")) 1 1010 Z [.ref b, .int (nI v)] (sb2 g b w u.length mm f []) (xs) (fun v9 H => v9 = some (.ref b) ∧ SBu g Z b (u ++ dec v) H) := by
  refine Met.ofW (cc := cJ5_append_c97b9) (maxL := 4) (ret := (some (.object "java/lang/AbstractStringBuilder"))) (by decide) rfl ?_
  intro p e s m args below meth c s₁ B hml hv
  obtain ⟨rfl, hE, hLo, hZb, hZs, hP, hX⟩ := hv
  have hr : meth.sig.returnType = (some (.object "java/lang/AbstractStringBuilder")) := B.returns
  have C : Cx l g p s m meth c cJ5_append_c97b9 4 RJ5 := ⟨B.exec, B.bytes, hml, findClass_of_methodNamed B.named, hE, hLo, B.notSynchronized⟩
  have S : SJ g Z s (sb2 g b w u.length mm f []) (xs) s.heap [] := ⟨hP, va_S.rf, hZb, hZs, hX⟩
  have hx := C.1
  have hb := C.2.1
  have hl := lv_entry ([.ref b, .int (nI v)]) (n := 4) (Nat.le_of_ble_eq_true rfl)
  rw [lg_entry_eq]
  generalize (lg_sl ([.ref b, .int (nI v)]) ++ List.replicate (4 - (lg_sl ([.ref b, .int (nI v)])).length) Slot.unset).toArray = ls at hl ⊢
  have hl : lv_has ls 4 [(0, .ref b), (1, .int (nI v))] := hl
  generalize hH : s.heap = H at S ⊢
  generalize hlc : ([] : List Loc) = locs at S ⊢
  refine lv_aload_n hx hb dJ5_append_c97b9_0 rfl (lv_at hl 0 rfl) ?_
  refine z_get C S inBJ4 (ci := 15) rfl 0 rfl 3 (by decide) rfl rfl jf_RJ5_79 dJ5_append_c97b9_1 ?_
  refine lv_istore_n (lv' := [(2, .int (nI u.length)), (0, .ref b), (1, .int (nI v))]) hx hb dJ5_append_c97b9_4 rfl hl (by decide) rfl (fun ls hl => ?_)
  refine lv_iload_n hx hb dJ5_append_c97b9_5 rfl (lv_at hl 0 rfl) ?_
  refine lv_iload_n hx hb dJ5_append_c97b9_6 rfl (lv_at hl 2 rfl) ?_
  refine z_callS C S (Nat.le_refl Z) S.zh S.1 (fun q hq => hq) (k_size hv) ⟨jc_J6_stringSize_0f7a4, jn_RJ6, jl_RJ5_245, jt_J6_stringSize_0f7a4⟩ ⟨by decide, by decide⟩ rfl (rm_ok (by decide) (by decide)) hl.1 rfl (Nat.le_of_ble_eq_true rfl) ⟨Nat.le_of_ble_eq_true rfl, Nat.le_of_ble_eq_true rfl⟩ dJ5_append_c97b9_7 (fun v H1 locs1 hp hz hk hS => ?_)
  obtain ⟨rfl, hP⟩ := hp
  have S : SJ g Z s (sb2 g b w u.length mm f []) (xs) H1 locs1 := S.old hS hP
  refine lv_iadd hx hb dJ5_append_c97b9_10 ?_
  refine lv_topi (fun y9 hy9 => ?_)
  obtain rfl : y9 = nI (u.length + dg v) := hy9.trans (nI_add _ _)
  refine lv_istore_n (lv' := [(3, .int (nI (u.length + dg v))), (2, .int (nI u.length)), (0, .ref b), (1, .int (nI v))]) hx hb dJ5_append_c97b9_11 rfl hl (by decide) rfl (fun ls hl => ?_)
  refine lv_aload_n hx hb dJ5_append_c97b9_12 rfl (lv_at hl 2 rfl) ?_
  refine lv_iload_n hx hb dJ5_append_c97b9_13 rfl (lv_at hl 0 rfl) ?_
  refine z_callV (Cn := RJ4) C S (Nat.le_refl Z) S.zh S.1 (fun q hq => hq) (z_recv C S 0 rfl (T := TJ4) (N := 4) rfl) (k_ensure hm h5 hf hD) ⟨jc_J5_ensureCapacityInternal_d00df, jn_RJ5, jl_RJ5_100, ji_J5_ensureCapacityInternal_d00df⟩ (sel_priv rfl (C.2.2.2.2.1.w js_RJ4_J5_isLatin1_aae02) (C.2.2.2.2.1.w jp_J5_ensureCapacityInternal_d00df) (C.2.2.2.2.1.w ji_J5_ensureCapacityInternal_d00df)) ⟨by decide, by decide⟩ rfl (rm_ok (by decide) (by decide)) hl.1 rfl (Nat.le_of_ble_eq_true rfl) ⟨Nat.le_of_ble_eq_true rfl, Nat.le_of_ble_eq_true rfl⟩ dJ5_append_c97b9_14 (fun v H1 locs1 hp hz hk hS => ?_)
  obtain ⟨rfl, w1, m1, f1, hP, hD, hq1, hm1, hf1, hk1⟩ := hp
  have S : SJ g Z s _ (xs) H1 locs1 := S.old hS hP
  refine lv_aload_n hx hb dJ5_append_c97b9_17 rfl (lv_at hl 2 rfl) ?_
  refine z_callV (Cn := RJ4) C S (Nat.le_refl Z) S.zh S.1 (fun q hq => hq) (z_recv C S 0 rfl (T := TJ4) (N := 4) rfl) k_isLatin1 ⟨jc_J5_isLatin1_aae02, jn_RJ5, jl_RJ5_83, ji_J5_isLatin1_aae02⟩ (C.2.2.2.2.1.w js_RJ4_J5_isLatin1_aae02) ⟨by decide, by decide⟩ rfl (rm_ok (by decide) (by decide)) hl.1 rfl (Nat.le_of_ble_eq_true rfl) ⟨Nat.le_of_ble_eq_true rfl, Nat.le_of_ble_eq_true rfl⟩ dJ5_append_c97b9_18 (fun v H1 locs1 hp hz hk hS => ?_)
  obtain ⟨rfl, hP⟩ := hp
  have S : SJ g Z s _ (xs) H1 locs1 := S.old hS hP
  refine lv_if_eq (tgt := 37) hx hb dJ5_append_c97b9_21 (by decide) (fun c => absurd c (by decide)) (fun _ => ?_)
  refine lv_iload_n hx hb dJ5_append_c97b9_24 rfl (lv_at hl 3 rfl) ?_
  refine lv_iload_n hx hb dJ5_append_c97b9_25 rfl (lv_at hl 0 rfl) ?_
  refine lv_aload_n hx hb dJ5_append_c97b9_26 rfl (lv_at hl 2 rfl) ?_
  refine z_get C S inBJ4 (ci := 15) rfl 0 rfl 0 (by decide) rfl rfl jf_RJ5_15 dJ5_append_c97b9_27 ?_
  refine z_callS C S (Nat.le_refl Z) S.zh S.1 (fun q hq => hq) (k_chars hv hq1 hm1 hf1 hD) ⟨jc_J6_getChars_ba4f3, jn_RJ6, jl_RJ5_248, jt_J6_getChars_ba4f3⟩ ⟨by decide, by decide⟩ rfl (rm_ok (by decide) (by decide)) hl.1 rfl (Nat.le_of_ble_eq_true rfl) ⟨Nat.le_of_ble_eq_true rfl, Nat.le_of_ble_eq_true rfl⟩ dJ5_append_c97b9_30 (fun v H1 locs1 hp hz hk hS => ?_)
  obtain ⟨r9, rfl, f2, hP, hD, hf2, hk2, hk3⟩ := hp
  have S : SJ g Z s _ (xs) H1 locs1 := S.old hS hP
  refine lv_pop hx hb dJ5_append_c97b9_33 rfl ?_
  refine lv_goto (tgt := 48) hx hb dJ5_append_c97b9_34 (by decide) ?_
  refine lv_aload_n hx hb dJ5_append_c97b9_48 rfl (lv_at hl 2 rfl) ?_
  refine lv_iload_n hx hb dJ5_append_c97b9_49 rfl (lv_at hl 0 rfl) ?_
  refine z_put C S hD inBJ4 tyJ4_ok nmJ4 (ci := 15) rfl 0 rfl 3 (by decide) (Nat.le_of_ble_eq_true rfl) rfl rfl rfl rfl jf_RJ5_79 dJ5_append_c97b9_50 (fun H1 locs1 S hD => ?_)
  refine lv_aload_n hx hb dJ5_append_c97b9_53 rfl (lv_at hl 2 rfl) ?_
  refine z_aret C S.2.1 hr (Or.inl ⟨_, rfl⟩) ⟨rfl, w1, m1, f2, ?_⟩ dJ5_append_c97b9_54
  rw [List.length_append, dec_len]
  refine ⟨S.1, hD, hq1, hm1, hf2, ?_⟩
  rw [← dec_len, ← List.length_append]
  refine lt_app hu (fun j hj => ?_) (fun j hj => ?_)
  · rw [hk2 j hj]
    exact hk1 j (by omega)
  · rw [dec_len] at hj
    exact hk3 j hj
set_option maxHeartbeats 1000000 in
set_option maxRecDepth 100000 in
theorem k_appI {l : Launch} {g : GL} {Z : Nat} {b w mm v : Nat} {u : List Nat} {f : Nat → Int32} {xs : List Txt3} (hv : v < 10000) (h5 : u.length + dg v ≤ 500) (hum : u.length ≤ mm) (hm : mm ≤ 1010) (hf : sb_Fit f) (hu : ∀ j, j < u.length → f j = nI (u.getD j 0)) (hD : va_D (zA Z) (sb2 g b w u.length mm f [])) : Cj l g 6 yJ4_append_bf812 cJ4_append_bf812 2 (some (.object "java/lang/StringBuilder")) 1 1010 Z [.ref b, .int (nI v)] (sb2 g b w u.length mm f []) (xs) (fun v9 H => v9 = some (.ref b) ∧ SBu g Z b (u ++ dec v) H) := by
  refine Met.ofW (cc := cJ4_append_bf812) (maxL := 2) (ret := (some (.object "java/lang/StringBuilder"))) (by decide) rfl ?_
  intro p e s m args below meth c s₁ B hml hv
  obtain ⟨rfl, hE, hLo, hZb, hZs, hP, hX⟩ := hv
  have hr : meth.sig.returnType = (some (.object "java/lang/StringBuilder")) := B.returns
  have C : Cx l g p s m meth c cJ4_append_bf812 2 RJ4 := ⟨B.exec, B.bytes, hml, findClass_of_methodNamed B.named, hE, hLo, B.notSynchronized⟩
  have S : SJ g Z s (sb2 g b w u.length mm f []) (xs) s.heap [] := ⟨hP, va_S.rf, hZb, hZs, hX⟩
  have hx := C.1
  have hb := C.2.1
  have hl := lv_entry ([.ref b, .int (nI v)]) (n := 2) (Nat.le_of_ble_eq_true rfl)
  rw [lg_entry_eq]
  generalize (lg_sl ([.ref b, .int (nI v)]) ++ List.replicate (2 - (lg_sl ([.ref b, .int (nI v)])).length) Slot.unset).toArray = ls at hl ⊢
  have hl : lv_has ls 2 [(0, .ref b), (1, .int (nI v))] := hl
  generalize hH : s.heap = H at S ⊢
  generalize hlc : ([] : List Loc) = locs at S ⊢
  refine lv_aload_n hx hb dJ4_append_bf812_0 rfl (lv_at hl 0 rfl) ?_
  refine lv_iload_n hx hb dJ4_append_bf812_1 rfl (lv_at hl 1 rfl) ?_
  refine z_callU C S (Nat.le_refl Z) S.zh S.1 (fun q hq => hq) (z_recv C S 0 rfl (T := TJ4) (N := 4) rfl) (k_appI5 hv h5 hum hm hf hu hD) ⟨jc_J5_append_c97b9, jn_RJ5, jl_RJ4_53, ji_J5_append_c97b9, jm_J5_append_c97b9, jx_sup⟩ (by decide) rfl (rm_ok (by decide) (by decide)) hl.1 rfl (Nat.le_of_ble_eq_true rfl) ⟨Nat.le_of_ble_eq_true rfl, Nat.le_of_ble_eq_true rfl⟩ dJ4_append_bf812_2 (fun v H1 locs1 hp hz hk hS => ?_)
  obtain ⟨rfl, hB⟩ := hp
  refine lv_pop hx hb dJ4_append_bf812_5 rfl ?_
  refine lv_aload_n hx hb dJ4_append_bf812_6 rfl (lv_at hl 0 rfl) ?_
  exact z_aret C hS hr (Or.inl ⟨_, rfl⟩) ⟨rfl, hB⟩ dJ4_append_bf812_7
set_option maxHeartbeats 1000000 in
set_option maxRecDepth 100000 in
theorem k_canEnc {l : Launch} {g : GL} {Z : Nat} {v : Nat} {ws : va_W} {xs : List Txt3} (hv : v < 128) : Cj l g 1 yJ1_canEncode_fc78d cJ1_canEncode_fc78d 1 (some .boolean) 0 0 Z [.int (nI v)] (ws) (xs) (Pk g (some (.int (nI 1))) ws) := by
  refine Met.ofW (cc := cJ1_canEncode_fc78d) (maxL := 1) (ret := (some .boolean)) (by decide) rfl ?_
  intro p e s m args below meth c s₁ B hml hv
  obtain ⟨rfl, hE, hLo, hZb, hZs, hP, hX⟩ := hv
  have hr : meth.sig.returnType = (some .boolean) := B.returns
  have C : Cx l g p s m meth c cJ1_canEncode_fc78d 1 RJ1 := ⟨B.exec, B.bytes, hml, findClass_of_methodNamed B.named, hE, hLo, B.notSynchronized⟩
  have S : SJ g Z s (ws) (xs) s.heap [] := ⟨hP, va_S.rf, hZb, hZs, hX⟩
  have hx := C.1
  have hb := C.2.1
  have hl := lv_entry ([.int (nI v)]) (n := 1) (Nat.le_of_ble_eq_true rfl)
  rw [lg_entry_eq]
  generalize (lg_sl ([.int (nI v)]) ++ List.replicate (1 - (lg_sl ([.int (nI v)])).length) Slot.unset).toArray = ls at hl ⊢
  have hl : lv_has ls 1 [(0, .int (nI v))] := hl
  generalize hH : s.heap = H at S ⊢
  generalize hlc : ([] : List Loc) = locs at S ⊢
  refine lv_iload_n hx hb dJ1_canEncode_fc78d_0 rfl (lv_at hl 0 rfl) ?_
  refine lv_sipush (v := nI 255) hx hb dJ1_canEncode_fc78d_1 (by decide) ?_
  refine lv_icmp_gt (tgt := 11) hx hb dJ1_canEncode_fc78d_4 (by decide) (fun c => absurd c (by rw [show (nI 255) = nI 255 from rfl]; exact nI_nlt (by omega) (by omega))) (fun _ => ?_)
  refine lv_iconst (v := nI 1) hx hb dJ1_canEncode_fc78d_7 (by decide) ?_
  refine lv_goto (tgt := 12) hx hb dJ1_canEncode_fc78d_8 (by decide) ?_
  exact z_iret C S.2.1 hr rfl ⟨rfl, S.1⟩ dJ1_canEncode_fc78d_12
set_option maxHeartbeats 1000000 in
set_option maxRecDepth 100000 in
theorem k_appC5 {l : Launch} {g : GL} {Z : Nat} {b w mm v : Nat} {u : List Nat} {f : Nat → Int32} {xs : List Txt3} (hv : v < 128) (h5 : u.length + 1 ≤ 500) (hum : u.length ≤ mm) (hm : mm ≤ 1010) (hf : sb_Fit f) (hu : ∀ j, j < u.length → f j = nI (u.getD j 0)) (hD : va_D (zA Z) (sb2 g b w u.length mm f [])) : Cj l g 5 yJ5_append_3fe6f cJ5_append_3fe6f 2 (some (.object "java/lang/AbstractStringBuilder")) 1 1010 Z [.ref b, .int (nI v)] (sb2 g b w u.length mm f []) (xs) (fun v9 H => v9 = some (.ref b) ∧ SBu g Z b (u ++ [v]) H) := by
  refine Met.ofW (cc := cJ5_append_3fe6f) (maxL := 2) (ret := (some (.object "java/lang/AbstractStringBuilder"))) (by decide) rfl ?_
  intro p e s m args below meth c s₁ B hml hv
  obtain ⟨rfl, hE, hLo, hZb, hZs, hP, hX⟩ := hv
  have hr : meth.sig.returnType = (some (.object "java/lang/AbstractStringBuilder")) := B.returns
  have C : Cx l g p s m meth c cJ5_append_3fe6f 2 RJ5 := ⟨B.exec, B.bytes, hml, findClass_of_methodNamed B.named, hE, hLo, B.notSynchronized⟩
  have S : SJ g Z s (sb2 g b w u.length mm f []) (xs) s.heap [] := ⟨hP, va_S.rf, hZb, hZs, hX⟩
  have hx := C.1
  have hb := C.2.1
  have hl := lv_entry ([.ref b, .int (nI v)]) (n := 2) (Nat.le_of_ble_eq_true rfl)
  rw [lg_entry_eq]
  generalize (lg_sl ([.ref b, .int (nI v)]) ++ List.replicate (2 - (lg_sl ([.ref b, .int (nI v)])).length) Slot.unset).toArray = ls at hl ⊢
  have hl : lv_has ls 2 [(0, .ref b), (1, .int (nI v))] := hl
  generalize hH : s.heap = H at S ⊢
  generalize hlc : ([] : List Loc) = locs at S ⊢
  refine lv_aload_n hx hb dJ5_append_3fe6f_0 rfl (lv_at hl 0 rfl) ?_
  refine lv_aload_n hx hb dJ5_append_3fe6f_1 rfl (lv_at hl 0 rfl) ?_
  refine z_get C S inBJ4 (ci := 15) rfl 0 rfl 3 (by decide) rfl rfl jf_RJ5_79 dJ5_append_3fe6f_2 ?_
  refine lv_iconst (v := nI 1) hx hb dJ5_append_3fe6f_5 (by decide) ?_
  refine lv_iadd hx hb dJ5_append_3fe6f_6 ?_
  refine lv_topi (fun y9 hy9 => ?_)
  obtain rfl : y9 = nI (u.length + 1) := hy9.trans (nI_add _ _)
  refine z_callV (Cn := RJ4) C S (Nat.le_refl Z) S.zh S.1 (fun q hq => hq) (z_recv C S 0 rfl (T := TJ4) (N := 4) rfl) (k_ensure hm h5 hf hD) ⟨jc_J5_ensureCapacityInternal_d00df, jn_RJ5, jl_RJ5_100, ji_J5_ensureCapacityInternal_d00df⟩ (sel_priv rfl (C.2.2.2.2.1.w js_RJ4_J5_isLatin1_aae02) (C.2.2.2.2.1.w jp_J5_ensureCapacityInternal_d00df) (C.2.2.2.2.1.w ji_J5_ensureCapacityInternal_d00df)) ⟨by decide, by decide⟩ rfl (rm_ok (by decide) (by decide)) hl.1 rfl (Nat.le_of_ble_eq_true rfl) ⟨Nat.le_of_ble_eq_true rfl, Nat.le_of_ble_eq_true rfl⟩ dJ5_append_3fe6f_7 (fun v H1 locs1 hp hz hk hS => ?_)
  obtain ⟨rfl, w1, m1, f1, hP, hD, hq1, hm1, hf1, hk1⟩ := hp
  have S : SJ g Z s _ (xs) H1 locs1 := S.old hS hP
  refine lv_aload_n hx hb dJ5_append_3fe6f_10 rfl (lv_at hl 0 rfl) ?_
  refine z_callV (Cn := RJ4) C S (Nat.le_refl Z) S.zh S.1 (fun q hq => hq) (z_recv C S 0 rfl (T := TJ4) (N := 4) rfl) k_isLatin1 ⟨jc_J5_isLatin1_aae02, jn_RJ5, jl_RJ5_83, ji_J5_isLatin1_aae02⟩ (C.2.2.2.2.1.w js_RJ4_J5_isLatin1_aae02) ⟨by decide, by decide⟩ rfl (rm_ok (by decide) (by decide)) hl.1 rfl (Nat.le_of_ble_eq_true rfl) ⟨Nat.le_of_ble_eq_true rfl, Nat.le_of_ble_eq_true rfl⟩ dJ5_append_3fe6f_11 (fun v H1 locs1 hp hz hk hS => ?_)
  obtain ⟨rfl, hP⟩ := hp
  have S : SJ g Z s _ (xs) H1 locs1 := S.old hS hP
  refine lv_if_eq (tgt := 45) hx hb dJ5_append_3fe6f_14 (by decide) (fun c => absurd c (by decide)) (fun _ => ?_)
  refine lv_iload_n hx hb dJ5_append_3fe6f_17 rfl (lv_at hl 1 rfl) ?_
  refine z_callS C S (Nat.le_refl Z) S.zh S.1 (fun q hq => hq) (k_canEnc hv) ⟨jc_J1_canEncode_fc78d, jn_RJ1, jl_RJ5_191, jt_J1_canEncode_fc78d⟩ ⟨by decide, by decide⟩ rfl (rm_ok (by decide) (by decide)) hl.1 rfl (Nat.le_of_ble_eq_true rfl) ⟨Nat.le_of_ble_eq_true rfl, Nat.le_of_ble_eq_true rfl⟩ dJ5_append_3fe6f_18 (fun v H1 locs1 hp hz hk hS => ?_)
  obtain ⟨rfl, hP⟩ := hp
  have S : SJ g Z s _ (xs) H1 locs1 := S.old hS hP
  refine lv_if_eq (tgt := 45) hx hb dJ5_append_3fe6f_21 (by decide) (fun c => absurd c (by decide)) (fun _ => ?_)
  refine lv_aload_n hx hb dJ5_append_3fe6f_24 rfl (lv_at hl 0 rfl) ?_
  refine z_get C S inBJ4 (ci := 15) rfl 0 rfl 0 (by decide) rfl rfl jf_RJ5_15 dJ5_append_3fe6f_25 ?_
  refine lv_aload_n hx hb dJ5_append_3fe6f_28 rfl (lv_at hl 0 rfl) ?_
  refine lv_dup hx hb dJ5_append_3fe6f_29 rfl ?_
  refine z_get C S inBJ4 (ci := 15) rfl 0 rfl 3 (by decide) rfl rfl jf_RJ5_79 dJ5_append_3fe6f_30 ?_
  refine lv_dup_x1 hx hb dJ5_append_3fe6f_33 rfl rfl ?_
  refine lv_iconst (v := nI 1) hx hb dJ5_append_3fe6f_34 (by decide) ?_
  refine lv_iadd hx hb dJ5_append_3fe6f_35 ?_
  refine lv_topi (fun y9 hy9 => ?_)
  obtain rfl : y9 = nI (u.length + 1) := hy9.trans (nI_add _ _)
  refine z_put C S hD inBJ4 tyJ4_ok nmJ4 (ci := 15) rfl 0 rfl 3 (by decide) (Nat.le_of_ble_eq_true rfl) rfl rfl rfl rfl jf_RJ5_79 dJ5_append_3fe6f_36 (fun H1 locs1 S hD => ?_)
  refine lv_iload_n hx hb dJ5_append_3fe6f_39 rfl (lv_at hl 1 rfl) ?_
  refine lv_i2b (v := nI v) hx hb dJ5_append_3fe6f_40 (asc_b hv) ?_
  refine z_bast C S hD 1 rfl (by omega) (by omega) hv dJ5_append_3fe6f_41 (fun H1 locs1 S hD => ?_)
  refine lv_goto (tgt := 75) hx hb dJ5_append_3fe6f_42 (by decide) ?_
  refine lv_aload_n hx hb dJ5_append_3fe6f_75 rfl (lv_at hl 0 rfl) ?_
  refine z_aret C S.2.1 hr (Or.inl ⟨_, rfl⟩) ⟨rfl, w1, m1, upd f1 u.length (nI v), ?_⟩ dJ5_append_3fe6f_76
  rw [List.length_append]
  refine ⟨S.1, hD, hq1, hm1, sb_fitU hf1 (asc_f hv), ?_⟩
  rw [← List.length_append]
  refine lt_app hu (fun j hj => ?_) (fun j hj => ?_)
  · unfold upd
    rw [if_neg (by omega)]
    exact hk1 j (by omega)
  · have hj0 : j = 0 := by simpa using hj
    subst hj0
    unfold upd
    rw [if_pos (Nat.add_zero _)]
    rfl
set_option maxHeartbeats 1000000 in
set_option maxRecDepth 100000 in
theorem k_appC {l : Launch} {g : GL} {Z : Nat} {b w mm v : Nat} {u : List Nat} {f : Nat → Int32} {xs : List Txt3} (hv : v < 128) (h5 : u.length + 1 ≤ 500) (hum : u.length ≤ mm) (hm : mm ≤ 1010) (hf : sb_Fit f) (hu : ∀ j, j < u.length → f j = nI (u.getD j 0)) (hD : va_D (zA Z) (sb2 g b w u.length mm f [])) : Cj l g 6 yJ4_append_cf468 cJ4_append_cf468 2 (some (.object "java/lang/StringBuilder")) 1 1010 Z [.ref b, .int (nI v)] (sb2 g b w u.length mm f []) (xs) (fun v9 H => v9 = some (.ref b) ∧ SBu g Z b (u ++ [v]) H) := by
  refine Met.ofW (cc := cJ4_append_cf468) (maxL := 2) (ret := (some (.object "java/lang/StringBuilder"))) (by decide) rfl ?_
  intro p e s m args below meth c s₁ B hml hv
  obtain ⟨rfl, hE, hLo, hZb, hZs, hP, hX⟩ := hv
  have hr : meth.sig.returnType = (some (.object "java/lang/StringBuilder")) := B.returns
  have C : Cx l g p s m meth c cJ4_append_cf468 2 RJ4 := ⟨B.exec, B.bytes, hml, findClass_of_methodNamed B.named, hE, hLo, B.notSynchronized⟩
  have S : SJ g Z s (sb2 g b w u.length mm f []) (xs) s.heap [] := ⟨hP, va_S.rf, hZb, hZs, hX⟩
  have hx := C.1
  have hb := C.2.1
  have hl := lv_entry ([.ref b, .int (nI v)]) (n := 2) (Nat.le_of_ble_eq_true rfl)
  rw [lg_entry_eq]
  generalize (lg_sl ([.ref b, .int (nI v)]) ++ List.replicate (2 - (lg_sl ([.ref b, .int (nI v)])).length) Slot.unset).toArray = ls at hl ⊢
  have hl : lv_has ls 2 [(0, .ref b), (1, .int (nI v))] := hl
  generalize hH : s.heap = H at S ⊢
  generalize hlc : ([] : List Loc) = locs at S ⊢
  refine lv_aload_n hx hb dJ4_append_cf468_0 rfl (lv_at hl 0 rfl) ?_
  refine lv_iload_n hx hb dJ4_append_cf468_1 rfl (lv_at hl 1 rfl) ?_
  refine z_callU C S (Nat.le_refl Z) S.zh S.1 (fun q hq => hq) (z_recv C S 0 rfl (T := TJ4) (N := 4) rfl) (k_appC5 hv h5 hum hm hf hu hD) ⟨jc_J5_append_3fe6f, jn_RJ5, jl_RJ4_50, ji_J5_append_3fe6f, jm_J5_append_3fe6f, jx_sup⟩ (by decide) rfl (rm_ok (by decide) (by decide)) hl.1 rfl (Nat.le_of_ble_eq_true rfl) ⟨Nat.le_of_ble_eq_true rfl, Nat.le_of_ble_eq_true rfl⟩ dJ4_append_cf468_2 (fun v H1 locs1 hp hz hk hS => ?_)
  obtain ⟨rfl, hB⟩ := hp
  refine lv_pop hx hb dJ4_append_cf468_5 rfl ?_
  refine lv_aload_n hx hb dJ4_append_cf468_6 rfl (lv_at hl 0 rfl) ?_
  exact z_aret C hS hr (Or.inl ⟨_, rfl⟩) ⟨rfl, hB⟩ dJ4_append_cf468_7
set_option maxHeartbeats 1000000 in
set_option maxRecDepth 100000 in
theorem k_init5 {l : Launch} {g : GL} {Z : Nat} {b : Nat} {xs : List Txt3} (hD : va_D (zA Z) ([(b, .inr (15, [.null, .int 0, .int 0, .int 0]))])) : Cj l g 2 yJ5_init_d00df cJ5_init_d00df 2 none 1 16 Z [.ref b, .int (nI 16)] ([(b, .inr (15, [.null, .int 0, .int 0, .int 0]))]) (xs) (fun v H => v = none ∧ SBu g Z b [] H) := by
  refine Met.ofW (cc := cJ5_init_d00df) (maxL := 2) (ret := none) (by decide) rfl ?_
  intro p e s m args below meth c s₁ B hml hv
  obtain ⟨rfl, hE, hLo, hZb, hZs, hP, hX⟩ := hv
  have hr : meth.sig.returnType = none := B.returns
  have C : Cx l g p s m meth c cJ5_init_d00df 2 RJ5 := ⟨B.exec, B.bytes, hml, findClass_of_methodNamed B.named, hE, hLo, B.notSynchronized⟩
  have S : SJ g Z s ([(b, .inr (15, [.null, .int 0, .int 0, .int 0]))]) (xs) s.heap [] := ⟨hP, va_S.rf, hZb, hZs, hX⟩
  have hx := C.1
  have hb := C.2.1
  have hnm : meth.name = "<init>" := (name_of_methodNamed B.named B.method).1
  have hl := lv_entry ([.ref b, .int (nI 16)]) (n := 2) (Nat.le_of_ble_eq_true rfl)
  rw [lg_entry_eq]
  generalize (lg_sl ([.ref b, .int (nI 16)]) ++ List.replicate (2 - (lg_sl ([.ref b, .int (nI 16)])).length) Slot.unset).toArray = ls at hl ⊢
  have hl : lv_has ls 2 [(0, .ref b), (1, .int (nI 16))] := hl
  generalize hH : s.heap = H at S ⊢
  generalize hlc : ([] : List Loc) = locs at S ⊢
  refine lv_aload_n hx hb dJ5_init_d00df_0 rfl (lv_at hl 0 rfl) ?_
  refine a_obj C ol_RJ5 in_obj cd_obj hl.1 dJ5_init_d00df_1 (Nat.le_of_ble_eq_true rfl) (Nat.le_of_ble_eq_true rfl) ?_
  refine z_compact C S jf_RJ5_18 dJ5_init_d00df_4 ?_
  refine lv_if_eq (tgt := 25) hx hb dJ5_init_d00df_7 (by decide) (fun c => absurd c (by decide)) (fun _ => ?_)
  refine lv_aload_n hx hb dJ5_init_d00df_10 rfl (lv_at hl 0 rfl) ?_
  refine lv_iload_n hx hb dJ5_init_d00df_11 rfl (lv_at hl 1 rfl) ?_
  refine z_newB C S hD ac_byte (nI_pos (by omega)) (nI_clamp (by omega)) (by omega) (Nat.le_of_ble_eq_true rfl) (Nat.le_of_ble_eq_true rfl) dJ5_init_d00df_12 (fun H1 S hD => ?_)
  generalize H.size = a at S hD ⊢
  refine z_put C S hD inBJ4 tyJ4_ok nmJ4 (ci := 15) rfl 0 rfl 0 (by decide) (Nat.le_of_ble_eq_true rfl) rfl rfl rfl rfl jf_RJ5_15 dJ5_init_d00df_14 (fun H1 locs1 S hD => ?_)
  refine lv_aload_n hx hb dJ5_init_d00df_17 rfl (lv_at hl 0 rfl) ?_
  refine lv_iconst (v := (0 : Int32)) hx hb dJ5_init_d00df_18 (by decide) ?_
  refine z_put C S hD inBJ4 tyJ4_ok nmJ4 (ci := 15) rfl 0 rfl 1 (by decide) (Nat.le_of_ble_eq_true rfl) rfl rfl rfl rfl jf_RJ5_22 dJ5_init_d00df_19 (fun H1 locs1 S hD => ?_)
  refine lv_goto (tgt := 38) hx hb dJ5_init_d00df_22 (by decide) ?_
  exact z_vret C S.2.1 hr ⟨rfl, a, 16, (fun _ => 0), S.1, hD, by decide, by decide, sb_fit0, fun j hj => absurd hj (Nat.not_lt_zero j)⟩ dJ5_init_d00df_38
set_option maxHeartbeats 1000000 in
set_option maxRecDepth 100000 in
theorem k_init4 {l : Launch} {g : GL} {Z : Nat} {b : Nat} {xs : List Txt3} (hD : va_D (zA Z) ([(b, .inr (15, [.null, .int 0, .int 0, .int 0]))])) : Cj l g 3 yJ4_init_da8c8 cJ4_init_da8c8 1 none 1 16 Z [.ref b] ([(b, .inr (15, [.null, .int 0, .int 0, .int 0]))]) (xs) (fun v H => v = none ∧ SBu g Z b [] H) := by
  refine Met.ofW (cc := cJ4_init_da8c8) (maxL := 1) (ret := none) (by decide) rfl ?_
  intro p e s m args below meth c s₁ B hml hv
  obtain ⟨rfl, hE, hLo, hZb, hZs, hP, hX⟩ := hv
  have hr : meth.sig.returnType = none := B.returns
  have C : Cx l g p s m meth c cJ4_init_da8c8 1 RJ4 := ⟨B.exec, B.bytes, hml, findClass_of_methodNamed B.named, hE, hLo, B.notSynchronized⟩
  have S : SJ g Z s ([(b, .inr (15, [.null, .int 0, .int 0, .int 0]))]) (xs) s.heap [] := ⟨hP, va_S.rf, hZb, hZs, hX⟩
  have hx := C.1
  have hb := C.2.1
  have hnm : meth.name = "<init>" := (name_of_methodNamed B.named B.method).1
  have hl := lv_entry ([.ref b]) (n := 1) (Nat.le_of_ble_eq_true rfl)
  rw [lg_entry_eq]
  generalize (lg_sl ([.ref b]) ++ List.replicate (1 - (lg_sl ([.ref b])).length) Slot.unset).toArray = ls at hl ⊢
  have hl : lv_has ls 1 [(0, .ref b)] := hl
  generalize hH : s.heap = H at S ⊢
  generalize hlc : ([] : List Loc) = locs at S ⊢
  refine lv_aload_n hx hb dJ4_init_da8c8_0 rfl (lv_at hl 0 rfl) ?_
  refine lv_bipush (v := nI 16) hx hb dJ4_init_da8c8_1 (by decide) ?_
  refine z_callI C S (Nat.le_refl Z) S.zh S.1 (fun q hq => hq) (k_init5 hD) ⟨jc_J5_init_d00df, jn_RJ5, jl_RJ4_1, ji_J5_init_d00df⟩ rfl ⟨by decide, by decide⟩ rfl (rm_ok (by decide) (by decide)) hl.1 rfl (Nat.le_of_ble_eq_true rfl) ⟨Nat.le_of_ble_eq_true rfl, Nat.le_of_ble_eq_true rfl⟩ dJ4_init_da8c8_3 (fun v H1 locs1 hp hz hk hS => ?_)
  obtain ⟨rfl, hB⟩ := hp
  exact z_vret C hS hr ⟨rfl, hB⟩ dJ4_init_da8c8_6
set_option maxHeartbeats 1000000 in
set_option maxRecDepth 100000 in
theorem k_chkLen {l : Launch} {g : GL} {Z : Nat} {v : Nat} {ws : va_W} {xs : List Txt3} (hv : v < 2 ^ 31) : Cj l g 1 yJ7_checkLength_df160 cJ7_checkLength_df160 2 none 0 0 Z [.int (nI 0), .int (nI v)] (ws) (xs) (Pk g none ws) := by
  refine Met.ofW (cc := cJ7_checkLength_df160) (maxL := 2) (ret := none) (by decide) rfl ?_
  intro p e s m args below meth c s₁ B hml hv
  obtain ⟨rfl, hE, hLo, hZb, hZs, hP, hX⟩ := hv
  have hr : meth.sig.returnType = none := B.returns
  have C : Cx l g p s m meth c cJ7_checkLength_df160 2 RJ7 := ⟨B.exec, B.bytes, hml, findClass_of_methodNamed B.named, hE, hLo, B.notSynchronized⟩
  have S : SJ g Z s (ws) (xs) s.heap [] := ⟨hP, va_S.rf, hZb, hZs, hX⟩
  have hx := C.1
  have hb := C.2.1
  have hl := lv_entry ([.int (nI 0), .int (nI v)]) (n := 2) (Nat.le_of_ble_eq_true rfl)
  rw [lg_entry_eq]
  generalize (lg_sl ([.int (nI 0), .int (nI v)]) ++ List.replicate (2 - (lg_sl ([.int (nI 0), .int (nI v)])).length) Slot.unset).toArray = ls at hl ⊢
  have hl : lv_has ls 2 [(0, .int (nI 0)), (1, .int (nI v))] := hl
  generalize hH : s.heap = H at S ⊢
  generalize hlc : ([] : List Loc) = locs at S ⊢
  refine lv_iload_n hx hb dJ7_checkLength_df160_0 rfl (lv_at hl 1 rfl) ?_
  refine lv_iload_n hx hb dJ7_checkLength_df160_1 rfl (lv_at hl 0 rfl) ?_
  refine lv_icmp_ge (tgt := 37) hx hb dJ7_checkLength_df160_2 (by decide) (fun _ => ?_) (fun c => absurd (nI_pos' hv) c)
  exact z_vret C S.2.1 hr ⟨rfl, S.1⟩ dJ7_checkLength_df160_37
set_option maxHeartbeats 1000000 in
set_option maxRecDepth 100000 in
theorem k_copyRB {l : Launch} {g : GL} {Z : Nat} {b w n mm : Nat} {f : Nat → Int32} {wt : va_W} {xs : List Txt3} (hn : n < mm) (hm : mm ≤ 1010) (hf : sb_Fit f) (hD : va_D (zA Z) (sb2 g b w n mm f wt)) : Cj l g 2 yJ7_copyOfRangeByte_39247 cJ7_copyOfRangeByte_39247 5 (some (.array .byte)) 1 1010 Z [.ref w, .int (nI 0), .int (nI n)] (sb2 g b w n mm f wt) (xs) (fun v9 H => ∃ a f1, v9 = some (.ref a) ∧ va_P (gD g) vwCl (sb2 g b w n mm f wt ++ [(a, .inl (gT g 1, n, .inl f1))]) H ∧ va_D (zA Z) (sb2 g b w n mm f wt ++ [(a, .inl (gT g 1, n, .inl f1))]) ∧ ∀ j, j < n → f1 j = f j) := by
  refine Met.ofW (cc := cJ7_copyOfRangeByte_39247) (maxL := 5) (ret := (some (.array .byte))) (by decide) rfl ?_
  intro p e s m args below meth c s₁ B hml hv
  obtain ⟨rfl, hE, hLo, hZb, hZs, hP, hX⟩ := hv
  have hr : meth.sig.returnType = (some (.array .byte)) := B.returns
  have C : Cx l g p s m meth c cJ7_copyOfRangeByte_39247 5 RJ7 := ⟨B.exec, B.bytes, hml, findClass_of_methodNamed B.named, hE, hLo, B.notSynchronized⟩
  have S : SJ g Z s (sb2 g b w n mm f wt) (xs) s.heap [] := ⟨hP, va_S.rf, hZb, hZs, hX⟩
  have hx := C.1
  have hb := C.2.1
  have hl := lv_entry ([.ref w, .int (nI 0), .int (nI n)]) (n := 5) (Nat.le_of_ble_eq_true rfl)
  rw [lg_entry_eq]
  generalize (lg_sl ([.ref w, .int (nI 0), .int (nI n)]) ++ List.replicate (5 - (lg_sl ([.ref w, .int (nI 0), .int (nI n)])).length) Slot.unset).toArray = ls at hl ⊢
  have hl : lv_has ls 5 [(0, .ref w), (1, .int (nI 0)), (2, .int (nI n))] := hl
  generalize hH : s.heap = H at S ⊢
  generalize hlc : ([] : List Loc) = locs at S ⊢
  refine lv_iload_n hx hb dJ7_copyOfRangeByte_39247_0 rfl (lv_at hl 1 rfl) ?_
  refine lv_iload_n hx hb dJ7_copyOfRangeByte_39247_1 rfl (lv_at hl 2 rfl) ?_
  refine z_callS C S (Nat.le_refl Z) S.zh S.1 (fun q hq => hq) (k_chkLen (by omega)) ⟨jc_J7_checkLength_df160, jn_RJ7, jl_RJ7_343, jt_J7_checkLength_df160⟩ ⟨by decide, by decide⟩ rfl (rm_ok (by decide) (by decide)) hl.1 rfl (Nat.le_of_ble_eq_true rfl) ⟨Nat.le_of_ble_eq_true rfl, Nat.le_of_ble_eq_true rfl⟩ dJ7_copyOfRangeByte_39247_2 (fun v H1 locs1 hp hz hk hS => ?_)
  obtain ⟨rfl, hP⟩ := hp
  have S : SJ g Z s (sb2 g b w n mm f wt) (xs) H1 locs1 := S.old hS hP
  refine lv_iload_n hx hb dJ7_copyOfRangeByte_39247_5 rfl (lv_at hl 2 rfl) ?_
  refine lv_iload_n hx hb dJ7_copyOfRangeByte_39247_6 rfl (lv_at hl 1 rfl) ?_
  refine lv_isub hx hb dJ7_copyOfRangeByte_39247_7 ?_
  refine lv_topi (fun y9 hy9 => ?_)
  obtain rfl : y9 = nI n := hy9.trans (sub0 _)
  refine lv_istore_n (lv' := [(3, .int (nI n)), (0, .ref w), (1, .int (nI 0)), (2, .int (nI n))]) hx hb dJ7_copyOfRangeByte_39247_8 rfl hl (by decide) rfl (fun ls hl => ?_)
  refine lv_iload_n hx hb dJ7_copyOfRangeByte_39247_9 rfl (lv_at hl 0 rfl) ?_
  refine z_newB C S hD ac_byte (nI_pos (by omega)) (nI_clamp (by omega)) (by omega) (Nat.le_of_ble_eq_true rfl) (by show 0 + 0 + n ≤ 1010; omega) dJ7_copyOfRangeByte_39247_10 (fun H1 S hD => ?_)
  generalize Array.size _ = a at S hD ⊢
  refine lv_astore (lv' := [(4, .ref a), (3, .int (nI n)), (0, .ref w), (1, .int (nI 0)), (2, .int (nI n))]) hx hb dJ7_copyOfRangeByte_39247_12 hl (by decide) rfl (fun ls hl => ?_)
  refine lv_aload_n hx hb dJ7_copyOfRangeByte_39247_14 rfl (lv_at hl 2 rfl) ?_
  refine lv_iload_n hx hb dJ7_copyOfRangeByte_39247_15 rfl (lv_at hl 3 rfl) ?_
  refine lv_aload hx hb dJ7_copyOfRangeByte_39247_16 (lv_at hl 0 rfl) ?_
  refine lv_iconst (v := nI 0) hx hb dJ7_copyOfRangeByte_39247_18 (by decide) ?_
  refine lv_aload_n hx hb dJ7_copyOfRangeByte_39247_19 rfl (lv_at hl 2 rfl) ?_
  refine z_alen C S 1 rfl dJ7_copyOfRangeByte_39247_20 ?_
  refine lv_iload_n hx hb dJ7_copyOfRangeByte_39247_21 rfl (lv_at hl 3 rfl) ?_
  refine lv_isub hx hb dJ7_copyOfRangeByte_39247_22 ?_
  refine lv_topi (fun y9 hy9 => ?_)
  obtain rfl : y9 = nI mm := hy9.trans (sub0 _)
  refine lv_iload_n hx hb dJ7_copyOfRangeByte_39247_23 rfl (lv_at hl 1 rfl) ?_
  refine x_min C hl.1 ⟨jl_RJ7_304, st_math_min, ni_math, cd_math_min⟩ (Nat.le_of_ble_eq_true rfl) (Nat.le_of_ble_eq_true rfl) (Nat.le_of_ble_eq_true rfl) (by show 0 + 0 + n ≤ 1010; omega) dJ7_copyOfRangeByte_39247_24 ?_
  rw [nI_mn (by omega) (by omega), if_pos (by omega)]
  refine z_copy (n1 := n) (h := fun _ => 0) C hl.1 S hD ⟨jl_RJ7_150, jw_nat, jw_st, jn_sys⟩ 1 (sb2 g b w n mm f wt).length rfl (get_last _ _) (by omega) (by omega) (by omega) (by omega) hf (by decide) (Nat.le_of_ble_eq_true rfl) dJ7_copyOfRangeByte_39247_27 (fun H1 locs1 S hD => ?_)
  rw [set_last] at S hD
  refine lv_aload hx hb dJ7_copyOfRangeByte_39247_30 (lv_at hl 0 rfl) ?_
  refine W.widen (k := 1) (n := 1010) (by decide) (by omega) ?_
  exact z_aret C S.2.1 hr (Or.inr ⟨_, rfl⟩) ⟨a, _, rfl, S.1, hD, fun j hj => sb_cpy0 hj⟩ dJ7_copyOfRangeByte_39247_32
set_option maxHeartbeats 1000000 in
set_option maxRecDepth 100000 in
theorem k_copyR {l : Launch} {g : GL} {Z : Nat} {b w n mm : Nat} {f : Nat → Int32} {wt : va_W} {xs : List Txt3} (hn : n ≤ mm) (hm : mm ≤ 1010) (hf : sb_Fit f) (hD : va_D (zA Z) (sb2 g b w n mm f wt)) : Cj l g 3 yJ7_copyOfRange_39247 cJ7_copyOfRange_39247 3 (some (.array .byte)) 1 1010 Z [.ref w, .int (nI 0), .int (nI n)] (sb2 g b w n mm f wt) (xs) (fun v9 H => ∃ a f1, v9 = some (.ref a) ∧ va_P (gD g) vwCl (sb2 g b w n mm f wt ++ [(a, .inl (gT g 1, n, .inl f1))]) H ∧ va_D (zA Z) (sb2 g b w n mm f wt ++ [(a, .inl (gT g 1, n, .inl f1))]) ∧ ∀ j, j < n → f1 j = f j) := by
  refine Met.ofW (cc := cJ7_copyOfRange_39247) (maxL := 3) (ret := (some (.array .byte))) (by decide) rfl ?_
  intro p e s m args below meth c s₁ B hml hv
  obtain ⟨rfl, hE, hLo, hZb, hZs, hP, hX⟩ := hv
  have hr : meth.sig.returnType = (some (.array .byte)) := B.returns
  have C : Cx l g p s m meth c cJ7_copyOfRange_39247 3 RJ7 := ⟨B.exec, B.bytes, hml, findClass_of_methodNamed B.named, hE, hLo, B.notSynchronized⟩
  have S : SJ g Z s (sb2 g b w n mm f wt) (xs) s.heap [] := ⟨hP, va_S.rf, hZb, hZs, hX⟩
  have hx := C.1
  have hb := C.2.1
  have hl := lv_entry ([.ref w, .int (nI 0), .int (nI n)]) (n := 3) (Nat.le_of_ble_eq_true rfl)
  rw [lg_entry_eq]
  generalize (lg_sl ([.ref w, .int (nI 0), .int (nI n)]) ++ List.replicate (3 - (lg_sl ([.ref w, .int (nI 0), .int (nI n)])).length) Slot.unset).toArray = ls at hl ⊢
  have hl : lv_has ls 3 [(0, .ref w), (1, .int (nI 0)), (2, .int (nI n))] := hl
  generalize hH : s.heap = H at S ⊢
  generalize hlc : ([] : List Loc) = locs at S ⊢
  by_cases hq : n = mm
  · have hq := hq
    refine lv_iload_n hx hb dJ7_copyOfRange_39247_0 rfl (lv_at hl 1 rfl) ?_
    refine lv_if_ne (tgt := 10) hx hb dJ7_copyOfRange_39247_1 (by decide) (fun c => absurd (by decide) c) (fun _ => ?_)
    refine lv_iload_n hx hb dJ7_copyOfRange_39247_4 rfl (lv_at hl 2 rfl) ?_
    refine lv_aload_n hx hb dJ7_copyOfRange_39247_5 rfl (lv_at hl 0 rfl) ?_
    refine z_alen C S 1 rfl dJ7_copyOfRange_39247_6 ?_
    refine lv_icmp_eq (tgt := 17) hx hb dJ7_copyOfRange_39247_7 (by decide) (fun _ => ?_) (fun c => absurd (congrArg nI hq) c)
    refine lv_aload_n hx hb dJ7_copyOfRange_39247_17 rfl (lv_at hl 0 rfl) ?_
    refine z_clone C hl.1 S hD ⟨cl_1, cl_2, cl_3, cl_4, cl_5, cl_6⟩ 1 rfl hf (by decide) (Nat.le_of_ble_eq_true rfl) (Nat.le_of_ble_eq_true rfl) (by show 0 + mm ≤ 1010; omega) dJ7_copyOfRange_39247_18 (fun a H1 S hD => ?_)
    refine z_castB C S cl_7 (sb2 g b w n mm f wt).length (get_last _ _) dJ7_copyOfRange_39247_21 ?_
    refine W.widen (k := 1) (n := 1010) (by decide) (by omega) ?_
    subst hq
    exact z_aret C S.2.1 hr (Or.inr ⟨_, rfl⟩) ⟨a, f, rfl, S.1, hD, fun j hj => rfl⟩ dJ7_copyOfRange_39247_24
  · have hq := hq
    refine lv_iload_n hx hb dJ7_copyOfRange_39247_0 rfl (lv_at hl 1 rfl) ?_
    refine lv_if_ne (tgt := 10) hx hb dJ7_copyOfRange_39247_1 (by decide) (fun c => absurd (by decide) c) (fun _ => ?_)
    refine lv_iload_n hx hb dJ7_copyOfRange_39247_4 rfl (lv_at hl 2 rfl) ?_
    refine lv_aload_n hx hb dJ7_copyOfRange_39247_5 rfl (lv_at hl 0 rfl) ?_
    refine z_alen C S 1 rfl dJ7_copyOfRange_39247_6 ?_
    refine lv_icmp_eq (tgt := 17) hx hb dJ7_copyOfRange_39247_7 (by decide) (fun c => absurd c (nI_ne hq (by omega) (by omega))) (fun _ => ?_)
    refine lv_aload_n hx hb dJ7_copyOfRange_39247_10 rfl (lv_at hl 0 rfl) ?_
    refine lv_iload_n hx hb dJ7_copyOfRange_39247_11 rfl (lv_at hl 1 rfl) ?_
    refine lv_iload_n hx hb dJ7_copyOfRange_39247_12 rfl (lv_at hl 2 rfl) ?_
    refine z_callS C S (Nat.le_refl Z) S.zh S.1 (fun q hq => hq) (k_copyRB (by omega) hm hf hD) ⟨jc_J7_copyOfRangeByte_39247, jn_RJ7, jl_RJ7_339, jt_J7_copyOfRangeByte_39247⟩ ⟨by decide, by decide⟩ rfl (rm_ok (by decide) (by decide)) hl.1 rfl (Nat.le_of_ble_eq_true rfl) ⟨Nat.le_of_ble_eq_true rfl, Nat.le_of_ble_eq_true rfl⟩ dJ7_copyOfRange_39247_13 (fun v H1 locs1 hp hz hk hS => ?_)
    obtain ⟨a, f1, rfl, hP, hD, hk1⟩ := hp
    exact z_aret C hS hr (Or.inr ⟨_, rfl⟩) ⟨a, f1, rfl, hP, hD, hk1⟩ dJ7_copyOfRange_39247_16
set_option maxHeartbeats 1000000 in
set_option maxRecDepth 100000 in
theorem k_strI {l : Launch} {g : GL} {Z : Nat} {b w n mm a0 : Nat} {f : Nat → Int32} {xs : List Txt3} (hn : n ≤ mm) (hm : mm ≤ 1010) (hf : sb_Fit f) (hD : va_D (zA Z) (sb2 g b w n mm f [(a0, .inr (14, [.null, .int 0, .int 0, .int 0]))])) : Cj l g 4 yJ0_init_db425 cJ0_init_db425 5 none 1 1010 Z [.ref a0, .ref b, .null] (sb2 g b w n mm f [(a0, .inr (14, [.null, .int 0, .int 0, .int 0]))]) (xs) (fun v9 H => v9 = none ∧ ∃ a f1, va_P (gD g) vwCl [(a0, .inr (14, [.ref a, .int 0, .int 0, .int 0])), (a, .inl (gT g 1, n, .inl f1))] H ∧ va_D (zA Z) [(a0, .inr (14, [.ref a, .int 0, .int 0, .int 0])), (a, .inl (gT g 1, n, .inl f1))] ∧ ∀ j, j < n → f1 j = f j) := by
  refine Met.ofW (cc := cJ0_init_db425) (maxL := 5) (ret := none) (by decide) rfl ?_
  intro p e s m args below meth c s₁ B hml hv
  obtain ⟨rfl, hE, hLo, hZb, hZs, hP, hX⟩ := hv
  have hr : meth.sig.returnType = none := B.returns
  have C : Cx l g p s m meth c cJ0_init_db425 5 RJ0 := ⟨B.exec, B.bytes, hml, findClass_of_methodNamed B.named, hE, hLo, B.notSynchronized⟩
  have S : SJ g Z s (sb2 g b w n mm f [(a0, .inr (14, [.null, .int 0, .int 0, .int 0]))]) (xs) s.heap [] := ⟨hP, va_S.rf, hZb, hZs, hX⟩
  have hx := C.1
  have hb := C.2.1
  have hnm : meth.name = "<init>" := (name_of_methodNamed B.named B.method).1
  have hl := lv_entry ([.ref a0, .ref b, .null]) (n := 5) (Nat.le_of_ble_eq_true rfl)
  rw [lg_entry_eq]
  generalize (lg_sl ([.ref a0, .ref b, .null]) ++ List.replicate (5 - (lg_sl ([.ref a0, .ref b, .null])).length) Slot.unset).toArray = ls at hl ⊢
  have hl : lv_has ls 5 [(0, .ref a0), (1, .ref b), (2, .null)] := hl
  generalize hH : s.heap = H at S ⊢
  generalize hlc : ([] : List Loc) = locs at S ⊢
  refine lv_aload_n hx hb dJ0_init_db425_0 rfl (lv_at hl 0 rfl) ?_
  refine a_obj C ol_RJ0 in_obj cd_obj hl.1 dJ0_init_db425_1 (Nat.le_of_ble_eq_true rfl) (Nat.le_of_ble_eq_true rfl) ?_
  refine lv_aload_n hx hb dJ0_init_db425_4 rfl (lv_at hl 1 rfl) ?_
  refine z_callV (Cn := RJ4) C S (Nat.le_refl Z) S.zh S.1 (fun q hq => hq) (z_recv C S 0 rfl (T := TJ4) (N := 4) rfl) k_getValue ⟨jc_J5_getValue_6d5f1, jn_RJ5, jl_RJ0_552, ji_J5_getValue_6d5f1⟩ (C.2.2.2.2.1.w js_RJ4_J5_getValue_6d5f1) ⟨by decide, by decide⟩ rfl (rm_ok (by decide) (by decide)) hl.1 rfl (Nat.le_of_ble_eq_true rfl) ⟨Nat.le_of_ble_eq_true rfl, Nat.le_of_ble_eq_true rfl⟩ dJ0_init_db425_5 (fun v H1 locs1 hp hz hk hS => ?_)
  obtain ⟨rfl, hP⟩ := hp
  have S : SJ g Z s _ (xs) H1 locs1 := S.old hS hP
  refine lv_astore_n (lv' := [(3, .ref w), (0, .ref a0), (1, .ref b), (2, .null)]) hx hb dJ0_init_db425_8 rfl hl (by decide) rfl (fun ls hl => ?_)
  refine lv_aload_n hx hb dJ0_init_db425_9 rfl (lv_at hl 2 rfl) ?_
  refine z_callO (Cn := RJ4) (x := yJ5_length_8abf5) (owner := RJ5) C S (Nat.le_refl Z) S.zh S.1 (fun q hq => hq) (z_recv C S 0 rfl (T := TJ4) (N := 4) rfl) k_blength ⟨jc_J4_length_8abf5, jn_RJ4, jl_RJ0_549, ji_J4_length_8abf5, jm_J5_length_8abf5, js_O_J5_length_8abf5, ji_J5_length_8abf5⟩ jc_J5_length_8abf5 ⟨by decide, by decide⟩ rfl (rm_ok (by decide) (by decide)) hl.1 rfl (Nat.le_of_ble_eq_true rfl) ⟨Nat.le_of_ble_eq_true rfl, Nat.le_of_ble_eq_true rfl⟩ dJ0_init_db425_10 (fun v H1 locs1 hp hz hk hS => ?_)
  obtain ⟨rfl, hP⟩ := hp
  have S : SJ g Z s _ (xs) H1 locs1 := S.old hS hP
  refine lv_istore (lv' := [(4, .int (nI n)), (3, .ref w), (0, .ref a0), (1, .ref b), (2, .null)]) hx hb dJ0_init_db425_13 hl (by decide) rfl (fun ls hl => ?_)
  refine lv_aload_n hx hb dJ0_init_db425_15 rfl (lv_at hl 3 rfl) ?_
  refine z_callV (Cn := RJ4) C S (Nat.le_refl Z) S.zh S.1 (fun q hq => hq) (z_recv C S 0 rfl (T := TJ4) (N := 4) rfl) k_isLatin1 ⟨jc_J5_isLatin1_aae02, jn_RJ5, jl_RJ0_1047, ji_J5_isLatin1_aae02⟩ (C.2.2.2.2.1.w js_RJ4_J5_isLatin1_aae02) ⟨by decide, by decide⟩ rfl (rm_ok (by decide) (by decide)) hl.1 rfl (Nat.le_of_ble_eq_true rfl) ⟨Nat.le_of_ble_eq_true rfl, Nat.le_of_ble_eq_true rfl⟩ dJ0_init_db425_16 (fun v H1 locs1 hp hz hk hS => ?_)
  obtain ⟨rfl, hP⟩ := hp
  have S : SJ g Z s _ (xs) H1 locs1 := S.old hS hP
  refine lv_if_eq (tgt := 41) hx hb dJ0_init_db425_19 (by decide) (fun c => absurd c (by decide)) (fun _ => ?_)
  refine lv_aload_n hx hb dJ0_init_db425_22 rfl (lv_at hl 2 rfl) ?_
  refine lv_iconst (v := (0 : Int32)) hx hb dJ0_init_db425_23 (by decide) ?_
  refine z_putF C S hD inBJ0 tyJ0_ok nmJ0 (ci := 14) rfl 2 rfl 1 (by decide) (Nat.le_of_ble_eq_true rfl) rfl rfl hnm rfl rfl rfl jf_RJ0_15 dJ0_init_db425_24 (fun H1 locs1 S hD => ?_)
  refine lv_aload_n hx hb dJ0_init_db425_27 rfl (lv_at hl 2 rfl) ?_
  refine lv_aload_n hx hb dJ0_init_db425_28 rfl (lv_at hl 1 rfl) ?_
  refine lv_iconst (v := nI 0) hx hb dJ0_init_db425_29 (by decide) ?_
  refine lv_iload hx hb dJ0_init_db425_30 (lv_at hl 0 rfl) ?_
  refine z_callS C S (Nat.le_refl Z) S.zh S.1 (fun q hq => hq) (k_copyR hn hm hf hD) ⟨jc_J7_copyOfRange_39247, jn_RJ7, jl_RJ0_54, jt_J7_copyOfRange_39247⟩ ⟨by decide, by decide⟩ rfl (rm_ok (by decide) (by decide)) hl.1 rfl (Nat.le_of_ble_eq_true rfl) ⟨Nat.le_of_ble_eq_true rfl, Nat.le_of_ble_eq_true rfl⟩ dJ0_init_db425_32 (fun v H1 locs1 hp hz hk hS => ?_)
  obtain ⟨a, f1, rfl, hP, hD, hk1⟩ := hp
  have S : SJ g Z s _ (xs) H1 locs1 := S.old hS hP
  refine z_putF C S hD inBJ0 tyJ0_ok nmJ0 (ci := 14) rfl 2 rfl 0 (by decide) (Nat.le_of_ble_eq_true rfl) rfl rfl hnm rfl rfl rfl jf_RJ0_9 dJ0_init_db425_35 (fun H1 locs1 S hD => ?_)
  refine lv_goto (tgt := 97) hx hb dJ0_init_db425_38 (by decide) ?_
  have hP := S.1.sub [2, 3] rfl
  have hD : va_D (zA Z) [(a0, .inr (14, [.ref a, .int 0, .int 0, .int 0])), (a, .inl (gT g 1, n, .inl f1))] := hD.sub [2, 3] rfl rfl
  exact z_vret C S.2.1 hr ⟨rfl, a, f1, hP, hD, hk1⟩ dJ0_init_db425_97
set_option maxHeartbeats 1000000 in
set_option maxRecDepth 100000 in
theorem k_strS {l : Launch} {g : GL} {Z : Nat} {b w n mm a0 : Nat} {f : Nat → Int32} {xs : List Txt3} (hn : n ≤ mm) (hm : mm ≤ 1010) (hf : sb_Fit f) (hD : va_D (zA Z) (sb2 g b w n mm f [(a0, .inr (14, [.null, .int 0, .int 0, .int 0]))])) : Cj l g 5 yJ0_init_81219 cJ0_init_81219 2 none 1 1010 Z [.ref a0, .ref b] (sb2 g b w n mm f [(a0, .inr (14, [.null, .int 0, .int 0, .int 0]))]) (xs) (fun v9 H => v9 = none ∧ ∃ a f1, va_P (gD g) vwCl [(a0, .inr (14, [.ref a, .int 0, .int 0, .int 0])), (a, .inl (gT g 1, n, .inl f1))] H ∧ va_D (zA Z) [(a0, .inr (14, [.ref a, .int 0, .int 0, .int 0])), (a, .inl (gT g 1, n, .inl f1))] ∧ ∀ j, j < n → f1 j = f j) := by
  refine Met.ofW (cc := cJ0_init_81219) (maxL := 2) (ret := none) (by decide) rfl ?_
  intro p e s m args below meth c s₁ B hml hv
  obtain ⟨rfl, hE, hLo, hZb, hZs, hP, hX⟩ := hv
  have hr : meth.sig.returnType = none := B.returns
  have C : Cx l g p s m meth c cJ0_init_81219 2 RJ0 := ⟨B.exec, B.bytes, hml, findClass_of_methodNamed B.named, hE, hLo, B.notSynchronized⟩
  have S : SJ g Z s (sb2 g b w n mm f [(a0, .inr (14, [.null, .int 0, .int 0, .int 0]))]) (xs) s.heap [] := ⟨hP, va_S.rf, hZb, hZs, hX⟩
  have hx := C.1
  have hb := C.2.1
  have hnm : meth.name = "<init>" := (name_of_methodNamed B.named B.method).1
  have hl := lv_entry ([.ref a0, .ref b]) (n := 2) (Nat.le_of_ble_eq_true rfl)
  rw [lg_entry_eq]
  generalize (lg_sl ([.ref a0, .ref b]) ++ List.replicate (2 - (lg_sl ([.ref a0, .ref b])).length) Slot.unset).toArray = ls at hl ⊢
  have hl : lv_has ls 2 [(0, .ref a0), (1, .ref b)] := hl
  generalize hH : s.heap = H at S ⊢
  generalize hlc : ([] : List Loc) = locs at S ⊢
  refine lv_aload_n hx hb dJ0_init_81219_0 rfl (lv_at hl 0 rfl) ?_
  refine lv_aload_n hx hb dJ0_init_81219_1 rfl (lv_at hl 1 rfl) ?_
  refine lv_null hx hb dJ0_init_81219_2 ?_
  refine z_callI C S (Nat.le_refl Z) S.zh S.1 (fun q hq => hq) (k_strI hn hm hf hD) ⟨jc_J0_init_db425, jn_RJ0, jl_RJ0_489, ji_J0_init_db425⟩ rfl ⟨by decide, by decide⟩ rfl (rm_ok (by decide) (by decide)) hl.1 rfl (Nat.le_of_ble_eq_true rfl) ⟨Nat.le_of_ble_eq_true rfl, Nat.le_of_ble_eq_true rfl⟩ dJ0_init_81219_3 (fun v H1 locs1 hp hz hk hS => ?_)
  obtain ⟨rfl, a, f1, hP, hD, hk1⟩ := hp
  exact z_vret C hS hr ⟨rfl, a, f1, hP, hD, hk1⟩ dJ0_init_81219_6
set_option maxHeartbeats 1000000 in
set_option maxRecDepth 100000 in
theorem k_toStr {l : Launch} {g : GL} {Z : Nat} {b w n mm : Nat} {f : Nat → Int32} {xs : List Txt3} (hn : n ≤ mm) (hm : mm ≤ 1010) (hf : sb_Fit f) (hD : va_D (zA Z) (sb2 g b w n mm f [])) : Cj l g 6 yJ4_toString_0e30d cJ4_toString_0e30d 1 (some (.object "java/lang/String")) 2 1014 Z [.ref b] (sb2 g b w n mm f []) (xs) (fun v9 H => ∃ a0 a f1, v9 = some (.ref a0) ∧ Z < a0 ∧ va_P (gD g) vwCl [(a0, .inr (14, [.ref a, .int 0, .int 0, .int 0])), (a, .inl (gT g 1, n, .inl f1))] H ∧ va_D (zA Z) [(a0, .inr (14, [.ref a, .int 0, .int 0, .int 0])), (a, .inl (gT g 1, n, .inl f1))] ∧ ∀ j, j < n → f1 j = f j) := by
  refine Met.ofW (cc := cJ4_toString_0e30d) (maxL := 1) (ret := (some (.object "java/lang/String"))) (by decide) rfl ?_
  intro p e s m args below meth c s₁ B hml hv
  obtain ⟨rfl, hE, hLo, hZb, hZs, hP, hX⟩ := hv
  have hr : meth.sig.returnType = (some (.object "java/lang/String")) := B.returns
  have C : Cx l g p s m meth c cJ4_toString_0e30d 1 RJ4 := ⟨B.exec, B.bytes, hml, findClass_of_methodNamed B.named, hE, hLo, B.notSynchronized⟩
  have S : SJ g Z s (sb2 g b w n mm f []) (xs) s.heap [] := ⟨hP, va_S.rf, hZb, hZs, hX⟩
  have hx := C.1
  have hb := C.2.1
  have hl := lv_entry ([.ref b]) (n := 1) (Nat.le_of_ble_eq_true rfl)
  rw [lg_entry_eq]
  generalize (lg_sl ([.ref b]) ++ List.replicate (1 - (lg_sl ([.ref b])).length) Slot.unset).toArray = ls at hl ⊢
  have hl : lv_has ls 1 [(0, .ref b)] := hl
  generalize hH : s.heap = H at S ⊢
  generalize hlc : ([] : List Loc) = locs at S ⊢
  have hD0 := hD
  refine z_new C S hD inBJ0 tyJ0_ok (ci := 14) (fs := [.null, .int 0, .int 0, .int 0]) rfl ⟨cl_J4_18, iz_RJ0, jn_RJ0⟩ (fun j hj => by match j, hj with | 0, _ => rfl | 1, _ => rfl | 2, _ => rfl | 3, _ => rfl | j + 4, hj => omega) (Nat.le_of_ble_eq_true rfl) (Nat.le_of_ble_eq_true rfl) dJ4_toString_0e30d_0 (fun a0 H1 hq0 S hD => ?_)
  have hlt : Z < a0 := by have h1 := (hP 0 _ rfl).lt; have h2 := hD0.2 0 _ rfl; rw [hH] at h1; unfold zA at h2; rw [hq0]; exact Nat.lt_of_le_of_lt h2 h1
  refine lv_dup hx hb dJ4_toString_0e30d_3 rfl ?_
  refine lv_aload_n hx hb dJ4_toString_0e30d_4 rfl (lv_at hl 0 rfl) ?_
  refine z_callI C S (Nat.le_refl Z) S.zh S.1 (fun q hq => hq) (k_strS hn hm hf hD) ⟨jc_J0_init_81219, jn_RJ0, jl_RJ4_137, ji_J0_init_81219⟩ rfl ⟨by decide, by decide⟩ rfl (rm_ok (by decide) (by decide)) hl.1 rfl (Nat.le_of_ble_eq_true rfl) ⟨Nat.le_of_ble_eq_true rfl, Nat.le_of_ble_eq_true rfl⟩ dJ4_toString_0e30d_5 (fun v H1 locs1 hp hz hk hS => ?_)
  obtain ⟨rfl, a, f1, hP, hD, hk1⟩ := hp
  exact z_aret C hS hr (Or.inl ⟨_, rfl⟩) ⟨a0, a, f1, rfl, hlt, hP, hD, hk1⟩ dJ4_toString_0e30d_8
