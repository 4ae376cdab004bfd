/-! ===== the JDK's text builder: its methods ===== -/
theorem nI_mx {b c : Nat} (hb : b < 2 ^ 31) (hc : c < 2 ^ 31) : (if nI b < nI c then nI c else nI b) = nI (if b < c then c else b) := by
  by_cases h : b < c
  · rw [if_pos (nI_lt h hc), if_pos h]
  · rw [if_neg (nI_nlt (by omega) hb), if_neg h]
theorem nI_mn {b c : Nat} (hb : b < 2 ^ 31) (hc : c < 2 ^ 31) : (if nI c < nI b then nI c else nI b) = nI (if c < b then c else b) := by
  by_cases h : c < b
  · rw [if_pos (nI_lt h hb), if_pos h]
  · rw [if_neg (nI_nlt (by omega) hc), if_neg h]
theorem nI_sb {a b : Nat} (h : b ≤ a) (ha : a < 2 ^ 31) : nI a - nI b = nI (a - b) := pk_sub h
theorem nI_ne {a b : Nat} (h : a ≠ b) (ha : a < 2 ^ 31) (hb : b < 2 ^ 31) : ¬ nI a = nI b := fun q => h ((nI_eq ha hb).mp q)
set_option maxRecDepth 100000 in
set_option maxRecDepth 100000 in
theorem ly_J0_0 : u_lay RJ0 TJ0 0 ∈ BW := bw_in (List.mem_of_getElem? (i := 780) (by rfl)) (by rfl)
set_option maxRecDepth 100000 in
theorem ly_J0_1 : u_lay RJ0 TJ0 1 ∈ BW := bw_in (List.mem_of_getElem? (i := 782) (by rfl)) (by rfl)
set_option maxRecDepth 100000 in
theorem ly_J0_2 : u_lay RJ0 TJ0 2 ∈ BW := bw_in (List.mem_of_getElem? (i := 784) (by rfl)) (by rfl)
set_option maxRecDepth 100000 in
theorem ly_J0_3 : u_lay RJ0 TJ0 3 ∈ BW := bw_in (List.mem_of_getElem? (i := 786) (by rfl)) (by rfl)
theorem inBJ0 : ∀ w ∈ u_ws RJ0 TJ0 4, w ∈ BW := (List.forall_mem_cons.mpr ⟨ly_J0_0, (List.forall_mem_cons.mpr ⟨ly_J0_1, (List.forall_mem_cons.mpr ⟨ly_J0_2, (List.forall_mem_cons.mpr ⟨ly_J0_3, (fun _ h => absurd h List.not_mem_nil)⟩)⟩)⟩)⟩)
set_option maxRecDepth 100000 in
theorem ly_J4_0 : u_lay RJ4 TJ4 0 ∈ BW := bw_in (List.mem_of_getElem? (i := 497) (by rfl)) (by rfl)
set_option maxRecDepth 100000 in
theorem ly_J4_1 : u_lay RJ4 TJ4 1 ∈ BW := bw_in (List.mem_of_getElem? (i := 499) (by rfl)) (by rfl)
set_option maxRecDepth 100000 in
theorem ly_J4_2 : u_lay RJ4 TJ4 2 ∈ BW := bw_in (List.mem_of_getElem? (i := 501) (by rfl)) (by rfl)
set_option maxRecDepth 100000 in
theorem ly_J4_3 : u_lay RJ4 TJ4 3 ∈ BW := bw_in (List.mem_of_getElem? (i := 503) (by rfl)) (by rfl)
theorem inBJ4 : ∀ w ∈ u_ws RJ4 TJ4 4, w ∈ BW := (List.forall_mem_cons.mpr ⟨ly_J4_0, (List.forall_mem_cons.mpr ⟨ly_J4_1, (List.forall_mem_cons.mpr ⟨ly_J4_2, (List.forall_mem_cons.mpr ⟨ly_J4_3, (fun _ h => absurd h List.not_mem_nil)⟩)⟩)⟩)⟩)
set_option maxRecDepth 100000 in
theorem jl_RJ8_194 : Cond.methodLink RJ8 194 Lib.Math.max.name ∈ BW := bw_in (List.mem_of_getElem? (i := 529) (by rfl)) (by rfl)
set_option maxRecDepth 100000 in
theorem jk_RJ8_200 : Cond.constant RJ8 200 (2147483639) ∈ BW := bw_in (List.mem_of_getElem? (i := 532) (by rfl)) (by rfl)
set_option maxRecDepth 100000 in
theorem jf_RJ5_18 : Cond.fieldLink RJ5 18 "java/lang/String" "COMPACT_STRINGS" "Z" ∈ BW := bw_in (List.mem_of_getElem? (i := 484) (by rfl)) (by rfl)
set_option maxRecDepth 100000 in
theorem jf_RJ5_22 : Cond.fieldLink RJ5 22 "java/lang/AbstractStringBuilder" "coder" "B" ∈ BW := bw_in (List.mem_of_getElem? (i := 494) (by rfl)) (by rfl)
set_option maxRecDepth 100000 in
theorem jf_RJ5_15 : Cond.fieldLink RJ5 15 "java/lang/AbstractStringBuilder" "value" "[B" ∈ BW := bw_in (List.mem_of_getElem? (i := 493) (by rfl)) (by rfl)
set_option maxRecDepth 100000 in
theorem jf_RJ5_79 : Cond.fieldLink RJ5 79 "java/lang/AbstractStringBuilder" "count" "I" ∈ BW := bw_in (List.mem_of_getElem? (i := 496) (by rfl)) (by rfl)
set_option maxRecDepth 100000 in
theorem jc_J5_length_8abf5 : Cond.code yJ5_length_8abf5 cJ5_length_8abf5 1 (some .int) ∈ BW := bw_in (List.mem_of_getElem? (i := 682) (by rfl)) (by rfl)
set_option maxRecDepth 100000 in
theorem jn_RJ5 : Cond.initialized RJ5 ∈ BW := bw_in (List.mem_of_getElem? (i := 51) (by rfl)) (by rfl)
set_option maxRecDepth 100000 in
theorem jl_RJ4_343 : Cond.methodLink RJ4 343 yJ5_length_8abf5 ∈ BW := bw_in (List.mem_of_getElem? (i := 681) (by rfl)) (by rfl)
set_option maxRecDepth 100000 in
theorem ji_J5_length_8abf5 : Cond.instanceMethod yJ5_length_8abf5 ∈ BW := bw_in (List.mem_of_getElem? (i := 676) (by rfl)) (by rfl)
set_option maxRecDepth 100000 in
theorem jm_J5_length_8abf5 : Cond.sameMethod RJ5 RJ5 "length" "()I" ∈ BW := bw_in (List.mem_of_getElem? (i := 677) (by rfl)) (by rfl)
set_option maxRecDepth 100000 in
theorem jx_sup : Cond.superclass RJ4 RJ5 ∈ BW := bw_in (List.mem_of_getElem? (i := 505) (by rfl)) (by rfl)
set_option maxRecDepth 100000 in
theorem jc_J8_newLength_cabcc : Cond.code yJ8_newLength_cabcc cJ8_newLength_cabcc 4 (some .int) ∈ BW := bw_in (List.mem_of_getElem? (i := 528) (by rfl)) (by rfl)
set_option maxRecDepth 100000 in
theorem jn_RJ8 : Cond.initialized RJ8 ∈ BW := bw_in (List.mem_of_getElem? (i := 55) (by rfl)) (by rfl)
set_option maxRecDepth 100000 in
theorem jl_RJ5_114 : Cond.methodLink RJ5 114 yJ8_newLength_cabcc ∈ BW := bw_in (List.mem_of_getElem? (i := 526) (by rfl)) (by rfl)
set_option maxRecDepth 100000 in
theorem jt_J8_newLength_cabcc : Cond.static yJ8_newLength_cabcc ∈ BW := bw_in (List.mem_of_getElem? (i := 527) (by rfl)) (by rfl)
set_option maxRecDepth 100000 in
theorem jk_RJ5_39 : Cond.constant RJ5 39 (2147483647) ∈ BW := bw_in (List.mem_of_getElem? (i := 536) (by rfl)) (by rfl)
set_option maxRecDepth 100000 in
theorem jl_RJ7_304 : Cond.methodLink RJ7 304 Lib.Math.min.name ∈ BW := bw_in (List.mem_of_getElem? (i := 547) (by rfl)) (by rfl)
set_option maxRecDepth 100000 in
theorem st_math_min : Cond.static Lib.Math.min.name ∈ BW := bw_in (List.mem_of_getElem? (i := 548) (by rfl)) (by rfl)
set_option maxRecDepth 100000 in
theorem cd_math_min : Cond.code Lib.Math.min.name Lib.Math.min.code 2 (some .int) ∈ BW := bw_in (List.mem_of_getElem? (i := 549) (by rfl)) (by rfl)
set_option maxRecDepth 100000 in
theorem jl_RJ7_150 : Cond.methodLink RJ7 150 arraycopyName ∈ BW := bw_in (List.mem_of_getElem? (i := 550) (by rfl)) (by rfl)
set_option maxRecDepth 100000 in
theorem jw_nat : Cond.native arraycopyName ∈ BW := bw_in (List.mem_of_getElem? (i := 552) (by rfl)) (by rfl)
set_option maxRecDepth 100000 in
theorem jw_st : Cond.static arraycopyName ∈ BW := bw_in (List.mem_of_getElem? (i := 551) (by rfl)) (by rfl)
set_option maxRecDepth 100000 in
theorem jn_sys : Cond.initialized "java/lang/System" ∈ BW := bw_in (List.mem_of_getElem? (i := 58) (by rfl)) (by rfl)
set_option maxRecDepth 100000 in
theorem js_RJ4_J5_isLatin1_aae02 : Cond.selects RJ4 yJ5_isLatin1_aae02 yJ5_isLatin1_aae02 ∈ BW := bw_in (List.mem_of_getElem? (i := 556) (by rfl)) (by rfl)
set_option maxRecDepth 100000 in
theorem jp_J5_newCapacity_0f7a4 : Cond.privateMethod yJ5_newCapacity_0f7a4 ∈ BW := bw_in (List.mem_of_getElem? (i := 523) (by rfl)) (by rfl)
set_option maxRecDepth 100000 in
theorem ji_J5_newCapacity_0f7a4 : Cond.instanceMethod yJ5_newCapacity_0f7a4 ∈ BW := bw_in (List.mem_of_getElem? (i := 524) (by rfl)) (by rfl)
set_option maxRecDepth 100000 in
theorem jc_J5_newCapacity_0f7a4 : Cond.code yJ5_newCapacity_0f7a4 cJ5_newCapacity_0f7a4 6 (some .int) ∈ BW := bw_in (List.mem_of_getElem? (i := 525) (by rfl)) (by rfl)
set_option maxRecDepth 100000 in
theorem jl_RJ5_104 : Cond.methodLink RJ5 104 yJ5_newCapacity_0f7a4 ∈ BW := bw_in (List.mem_of_getElem? (i := 522) (by rfl)) (by rfl)
set_option maxRecDepth 100000 in
theorem jc_J7_copyOf_9075b : Cond.code yJ7_copyOf_9075b cJ7_copyOf_9075b 3 (some (.array .byte)) ∈ BW := bw_in (List.mem_of_getElem? (i := 539) (by rfl)) (by rfl)
set_option maxRecDepth 100000 in
theorem jn_RJ7 : Cond.initialized RJ7 ∈ BW := bw_in (List.mem_of_getElem? (i := 57) (by rfl)) (by rfl)
set_option maxRecDepth 100000 in
theorem jl_RJ5_108 : Cond.methodLink RJ5 108 yJ7_copyOf_9075b ∈ BW := bw_in (List.mem_of_getElem? (i := 537) (by rfl)) (by rfl)
set_option maxRecDepth 100000 in
theorem jt_J7_copyOf_9075b : Cond.static yJ7_copyOf_9075b ∈ BW := bw_in (List.mem_of_getElem? (i := 538) (by rfl)) (by rfl)
theorem dJ8_newLength_cabcc_0 : decode cJ8_newLength_cabcc 0 = .ok (.iload_n 0, 1) := by decide +kernel
theorem dJ8_newLength_cabcc_1 : decode cJ8_newLength_cabcc 1 = .ok (.iload_n 1, 1) := by decide +kernel
theorem dJ8_newLength_cabcc_2 : decode cJ8_newLength_cabcc 2 = .ok (.iload_n 2, 1) := by decide +kernel
theorem dJ8_newLength_cabcc_3 : decode cJ8_newLength_cabcc 3 = .ok (.invokestatic 194, 3) := by decide +kernel
theorem dJ8_newLength_cabcc_6 : decode cJ8_newLength_cabcc 6 = .ok (.iadd, 1) := by decide +kernel
theorem dJ8_newLength_cabcc_7 : decode cJ8_newLength_cabcc 7 = .ok (.istore_n 3, 1) := by decide +kernel
theorem dJ8_newLength_cabcc_8 : decode cJ8_newLength_cabcc 8 = .ok (.iconst 0, 1) := by decide +kernel
theorem dJ8_newLength_cabcc_9 : decode cJ8_newLength_cabcc 9 = .ok (.iload_n 3, 1) := by decide +kernel
theorem dJ8_newLength_cabcc_10 : decode cJ8_newLength_cabcc 10 = .ok (.if_icmp .ge 11, 3) := by decide +kernel
theorem dJ8_newLength_cabcc_13 : decode cJ8_newLength_cabcc 13 = .ok (.iload_n 3, 1) := by decide +kernel
theorem dJ8_newLength_cabcc_14 : decode cJ8_newLength_cabcc 14 = .ok (.ldc 200, 2) := by decide +kernel
theorem dJ8_newLength_cabcc_16 : decode cJ8_newLength_cabcc 16 = .ok (.if_icmp .gt 5, 3) := by decide +kernel
theorem dJ8_newLength_cabcc_19 : decode cJ8_newLength_cabcc 19 = .ok (.iload_n 3, 1) := by decide +kernel
theorem dJ8_newLength_cabcc_20 : decode cJ8_newLength_cabcc 20 = .ok (.ireturn, 1) := by decide +kernel
theorem dJ5_isLatin1_aae02_0 : decode cJ5_isLatin1_aae02 0 = .ok (.getstatic 18, 3) := by decide +kernel
theorem dJ5_isLatin1_aae02_3 : decode cJ5_isLatin1_aae02 3 = .ok (.ifCond .eq 14, 3) := by decide +kernel
theorem dJ5_isLatin1_aae02_6 : decode cJ5_isLatin1_aae02 6 = .ok (.aload_n 0, 1) := by decide +kernel
theorem dJ5_isLatin1_aae02_7 : decode cJ5_isLatin1_aae02 7 = .ok (.getfield 22, 3) := by decide +kernel
theorem dJ5_isLatin1_aae02_10 : decode cJ5_isLatin1_aae02 10 = .ok (.ifCond .ne 7, 3) := by decide +kernel
theorem dJ5_isLatin1_aae02_13 : decode cJ5_isLatin1_aae02 13 = .ok (.iconst 1, 1) := by decide +kernel
theorem dJ5_isLatin1_aae02_14 : decode cJ5_isLatin1_aae02 14 = .ok (.goto 4, 3) := by decide +kernel
theorem dJ5_isLatin1_aae02_18 : decode cJ5_isLatin1_aae02 18 = .ok (.ireturn, 1) := by decide +kernel
theorem dJ5_getValue_6d5f1_0 : decode cJ5_getValue_6d5f1 0 = .ok (.aload_n 0, 1) := by decide +kernel
theorem dJ5_getValue_6d5f1_1 : decode cJ5_getValue_6d5f1 1 = .ok (.getfield 15, 3) := by decide +kernel
theorem dJ5_getValue_6d5f1_4 : decode cJ5_getValue_6d5f1 4 = .ok (.areturn, 1) := by decide +kernel
theorem dJ5_length_8abf5_0 : decode cJ5_length_8abf5 0 = .ok (.aload_n 0, 1) := by decide +kernel
theorem dJ5_length_8abf5_1 : decode cJ5_length_8abf5 1 = .ok (.getfield 79, 3) := by decide +kernel
theorem dJ5_length_8abf5_4 : decode cJ5_length_8abf5 4 = .ok (.ireturn, 1) := by decide +kernel
theorem dJ4_length_8abf5_0 : decode cJ4_length_8abf5 0 = .ok (.aload_n 0, 1) := by decide +kernel
theorem dJ4_length_8abf5_1 : decode cJ4_length_8abf5 1 = .ok (.invokespecial 343, 3) := by decide +kernel
theorem dJ4_length_8abf5_4 : decode cJ4_length_8abf5 4 = .ok (.ireturn, 1) := by decide +kernel
theorem dJ5_newCapacity_0f7a4_0 : decode cJ5_newCapacity_0f7a4 0 = .ok (.aload_n 0, 1) := by decide +kernel
theorem dJ5_newCapacity_0f7a4_1 : decode cJ5_newCapacity_0f7a4 1 = .ok (.getfield 15, 3) := by decide +kernel
theorem dJ5_newCapacity_0f7a4_4 : decode cJ5_newCapacity_0f7a4 4 = .ok (.arraylength, 1) := by decide +kernel
theorem dJ5_newCapacity_0f7a4_5 : decode cJ5_newCapacity_0f7a4 5 = .ok (.istore_n 2, 1) := by decide +kernel
theorem dJ5_newCapacity_0f7a4_6 : decode cJ5_newCapacity_0f7a4 6 = .ok (.iload_n 1, 1) := by decide +kernel
theorem dJ5_newCapacity_0f7a4_7 : decode cJ5_newCapacity_0f7a4 7 = .ok (.aload_n 0, 1) := by decide +kernel
theorem dJ5_newCapacity_0f7a4_8 : decode cJ5_newCapacity_0f7a4 8 = .ok (.getfield 22, 3) := by decide +kernel
theorem dJ5_newCapacity_0f7a4_11 : decode cJ5_newCapacity_0f7a4 11 = .ok (.ishl, 1) := by decide +kernel
theorem dJ5_newCapacity_0f7a4_12 : decode cJ5_newCapacity_0f7a4 12 = .ok (.istore_n 3, 1) := by decide +kernel
theorem dJ5_newCapacity_0f7a4_13 : decode cJ5_newCapacity_0f7a4 13 = .ok (.iload_n 3, 1) := by decide +kernel
theorem dJ5_newCapacity_0f7a4_14 : decode cJ5_newCapacity_0f7a4 14 = .ok (.iload_n 2, 1) := by decide +kernel
theorem dJ5_newCapacity_0f7a4_15 : decode cJ5_newCapacity_0f7a4 15 = .ok (.isub, 1) := by decide +kernel
theorem dJ5_newCapacity_0f7a4_16 : decode cJ5_newCapacity_0f7a4 16 = .ok (.istore 4, 2) := by decide +kernel
theorem dJ5_newCapacity_0f7a4_18 : decode cJ5_newCapacity_0f7a4 18 = .ok (.iload_n 2, 1) := by decide +kernel
theorem dJ5_newCapacity_0f7a4_19 : decode cJ5_newCapacity_0f7a4 19 = .ok (.iload 4, 2) := by decide +kernel
theorem dJ5_newCapacity_0f7a4_21 : decode cJ5_newCapacity_0f7a4 21 = .ok (.iload_n 2, 1) := by decide +kernel
theorem dJ5_newCapacity_0f7a4_22 : decode cJ5_newCapacity_0f7a4 22 = .ok (.iconst 2, 1) := by decide +kernel
theorem dJ5_newCapacity_0f7a4_23 : decode cJ5_newCapacity_0f7a4 23 = .ok (.aload_n 0, 1) := by decide +kernel
theorem dJ5_newCapacity_0f7a4_24 : decode cJ5_newCapacity_0f7a4 24 = .ok (.getfield 22, 3) := by decide +kernel
theorem dJ5_newCapacity_0f7a4_27 : decode cJ5_newCapacity_0f7a4 27 = .ok (.ishl, 1) := by decide +kernel
theorem dJ5_newCapacity_0f7a4_28 : decode cJ5_newCapacity_0f7a4 28 = .ok (.iadd, 1) := by decide +kernel
theorem dJ5_newCapacity_0f7a4_29 : decode cJ5_newCapacity_0f7a4 29 = .ok (.invokestatic 114, 3) := by decide +kernel
theorem dJ5_newCapacity_0f7a4_32 : decode cJ5_newCapacity_0f7a4 32 = .ok (.istore 5, 2) := by decide +kernel
theorem dJ5_newCapacity_0f7a4_34 : decode cJ5_newCapacity_0f7a4 34 = .ok (.iload 5, 2) := by decide +kernel
theorem dJ5_newCapacity_0f7a4_36 : decode cJ5_newCapacity_0f7a4 36 = .ok (.ldc 39, 2) := by decide +kernel
theorem dJ5_newCapacity_0f7a4_38 : decode cJ5_newCapacity_0f7a4 38 = .ok (.if_icmp .ne 13, 3) := by decide +kernel
theorem dJ5_newCapacity_0f7a4_51 : decode cJ5_newCapacity_0f7a4 51 = .ok (.iload 5, 2) := by decide +kernel
theorem dJ5_newCapacity_0f7a4_53 : decode cJ5_newCapacity_0f7a4 53 = .ok (.aload_n 0, 1) := by decide +kernel
theorem dJ5_newCapacity_0f7a4_54 : decode cJ5_newCapacity_0f7a4 54 = .ok (.getfield 22, 3) := by decide +kernel
theorem dJ5_newCapacity_0f7a4_57 : decode cJ5_newCapacity_0f7a4 57 = .ok (.ishr, 1) := by decide +kernel
theorem dJ5_newCapacity_0f7a4_58 : decode cJ5_newCapacity_0f7a4 58 = .ok (.ireturn, 1) := by decide +kernel
theorem dJ7_copyOf_9075b_0 : decode cJ7_copyOf_9075b 0 = .ok (.iload_n 1, 1) := by decide +kernel
theorem dJ7_copyOf_9075b_1 : decode cJ7_copyOf_9075b 1 = .ok (.aload_n 0, 1) := by decide +kernel
theorem dJ7_copyOf_9075b_2 : decode cJ7_copyOf_9075b 2 = .ok (.arraylength, 1) := by decide +kernel
theorem dJ7_copyOf_9075b_3 : decode cJ7_copyOf_9075b 3 = .ok (.if_icmp .ne 11, 3) := by decide +kernel
theorem dJ7_copyOf_9075b_14 : decode cJ7_copyOf_9075b 14 = .ok (.iload_n 1, 1) := by decide +kernel
theorem dJ7_copyOf_9075b_15 : decode cJ7_copyOf_9075b 15 = .ok (.newarray .byte, 2) := by decide +kernel
theorem dJ7_copyOf_9075b_17 : decode cJ7_copyOf_9075b 17 = .ok (.astore_n 2, 1) := by decide +kernel
theorem dJ7_copyOf_9075b_18 : decode cJ7_copyOf_9075b 18 = .ok (.aload_n 0, 1) := by decide +kernel
theorem dJ7_copyOf_9075b_19 : decode cJ7_copyOf_9075b 19 = .ok (.iconst 0, 1) := by decide +kernel
theorem dJ7_copyOf_9075b_20 : decode cJ7_copyOf_9075b 20 = .ok (.aload_n 2, 1) := by decide +kernel
theorem dJ7_copyOf_9075b_21 : decode cJ7_copyOf_9075b 21 = .ok (.iconst 0, 1) := by decide +kernel
theorem dJ7_copyOf_9075b_22 : decode cJ7_copyOf_9075b 22 = .ok (.aload_n 0, 1) := by decide +kernel
theorem dJ7_copyOf_9075b_23 : decode cJ7_copyOf_9075b 23 = .ok (.arraylength, 1) := by decide +kernel
theorem dJ7_copyOf_9075b_24 : decode cJ7_copyOf_9075b 24 = .ok (.iload_n 1, 1) := by decide +kernel
theorem dJ7_copyOf_9075b_25 : decode cJ7_copyOf_9075b 25 = .ok (.invokestatic 304, 3) := by decide +kernel
theorem dJ7_copyOf_9075b_28 : decode cJ7_copyOf_9075b 28 = .ok (.invokestatic 150, 3) := by decide +kernel
theorem dJ7_copyOf_9075b_31 : decode cJ7_copyOf_9075b 31 = .ok (.aload_n 2, 1) := by decide +kernel
theorem dJ7_copyOf_9075b_32 : decode cJ7_copyOf_9075b 32 = .ok (.areturn, 1) := by decide +kernel
theorem dJ5_ensureCapacityInternal_d00df_0 : decode cJ5_ensureCapacityInternal_d00df 0 = .ok (.aload_n 0, 1) := by decide +kernel
theorem dJ5_ensureCapacityInternal_d00df_1 : decode cJ5_ensureCapacityInternal_d00df 1 = .ok (.getfield 15, 3) := by decide +kernel
theorem dJ5_ensureCapacityInternal_d00df_4 : decode cJ5_ensureCapacityInternal_d00df 4 = .ok (.arraylength, 1) := by decide +kernel
theorem dJ5_ensureCapacityInternal_d00df_5 : decode cJ5_ensureCapacityInternal_d00df 5 = .ok (.aload_n 0, 1) := by decide +kernel
theorem dJ5_ensureCapacityInternal_d00df_6 : decode cJ5_ensureCapacityInternal_d00df 6 = .ok (.getfield 22, 3) := by decide +kernel
theorem dJ5_ensureCapacityInternal_d00df_9 : decode cJ5_ensureCapacityInternal_d00df 9 = .ok (.ishr, 1) := by decide +kernel
theorem dJ5_ensureCapacityInternal_d00df_10 : decode cJ5_ensureCapacityInternal_d00df 10 = .ok (.istore_n 2, 1) := by decide +kernel
theorem dJ5_ensureCapacityInternal_d00df_11 : decode cJ5_ensureCapacityInternal_d00df 11 = .ok (.iload_n 1, 1) := by decide +kernel
theorem dJ5_ensureCapacityInternal_d00df_12 : decode cJ5_ensureCapacityInternal_d00df 12 = .ok (.iload_n 2, 1) := by decide +kernel
theorem dJ5_ensureCapacityInternal_d00df_13 : decode cJ5_ensureCapacityInternal_d00df 13 = .ok (.isub, 1) := by decide +kernel
theorem dJ5_ensureCapacityInternal_d00df_14 : decode cJ5_ensureCapacityInternal_d00df 14 = .ok (.ifCond .le 24, 3) := by decide +kernel
theorem dJ5_ensureCapacityInternal_d00df_38 : decode cJ5_ensureCapacityInternal_d00df 38 = .ok (.return_, 1) := by decide +kernel
theorem dJ5_ensureCapacityInternal_d00df_17 : decode cJ5_ensureCapacityInternal_d00df 17 = .ok (.aload_n 0, 1) := by decide +kernel
theorem dJ5_ensureCapacityInternal_d00df_18 : decode cJ5_ensureCapacityInternal_d00df 18 = .ok (.aload_n 0, 1) := by decide +kernel
theorem dJ5_ensureCapacityInternal_d00df_19 : decode cJ5_ensureCapacityInternal_d00df 19 = .ok (.getfield 15, 3) := by decide +kernel
theorem dJ5_ensureCapacityInternal_d00df_22 : decode cJ5_ensureCapacityInternal_d00df 22 = .ok (.aload_n 0, 1) := by decide +kernel
theorem dJ5_ensureCapacityInternal_d00df_23 : decode cJ5_ensureCapacityInternal_d00df 23 = .ok (.iload_n 1, 1) := by decide +kernel
theorem dJ5_ensureCapacityInternal_d00df_24 : decode cJ5_ensureCapacityInternal_d00df 24 = .ok (.invokevirtual 104, 3) := by decide +kernel
theorem dJ5_ensureCapacityInternal_d00df_27 : decode cJ5_ensureCapacityInternal_d00df 27 = .ok (.aload_n 0, 1) := by decide +kernel
theorem dJ5_ensureCapacityInternal_d00df_28 : decode cJ5_ensureCapacityInternal_d00df 28 = .ok (.getfield 22, 3) := by decide +kernel
theorem dJ5_ensureCapacityInternal_d00df_31 : decode cJ5_ensureCapacityInternal_d00df 31 = .ok (.ishl, 1) := by decide +kernel
theorem dJ5_ensureCapacityInternal_d00df_32 : decode cJ5_ensureCapacityInternal_d00df 32 = .ok (.invokestatic 108, 3) := by decide +kernel
theorem dJ5_ensureCapacityInternal_d00df_35 : decode cJ5_ensureCapacityInternal_d00df 35 = .ok (.putfield 15, 3) := by decide +kernel
set_option maxHeartbeats 1000000 in
set_option maxRecDepth 100000 in
theorem k_newLen {l : Launch} {g : GL} {Z : Nat} {a b c0 : Nat} {ws : va_W} {xs : List Txt3} (ha : a ≤ 2000) (hb0 : b ≤ 4000) (hc0 : c0 ≤ 4000) (h1 : 1 ≤ b) : Cj l g 2 yJ8_newLength_cabcc cJ8_newLength_cabcc 4 (some .int) 0 0 Z [.int (nI a), .int (nI b), .int (nI c0)] (ws) (xs) (Pk g (some (.int (nI (a + if b < c0 then c0 else b)))) ws) := by
  refine Met.ofW (cc := cJ8_newLength_cabcc) (maxL := 4) (ret := (some .int)) (by decide) rfl ?_
  intro p e s m args below meth c s₁ B hml hv
  obtain ⟨rfl, hE, hLo, hZb, hZs, hP, hX⟩ := hv
  have hr : meth.sig.returnType = (some .int) := B.returns
  have C : Cx l g p s m meth c cJ8_newLength_cabcc 4 RJ8 := ⟨B.exec, B.bytes, hml, findClass_of_methodNamed B.named, hE, hLo, B.notSynchronized⟩
  have S : SJ g Z s (ws) (xs) s.heap [] := ⟨hP, va_S.rf, hZb, hZs, hX⟩
  have hx := C.1
  have hb := C.2.1
  have hl := lv_entry ([.int (nI a), .int (nI b), .int (nI c0)]) (n := 4) (Nat.le_of_ble_eq_true rfl)
  rw [lg_entry_eq]
  generalize (lg_sl ([.int (nI a), .int (nI b), .int (nI c0)]) ++ List.replicate (4 - (lg_sl ([.int (nI a), .int (nI b), .int (nI c0)])).length) Slot.unset).toArray = ls at hl ⊢
  have hl : lv_has ls 4 [(0, .int (nI a)), (1, .int (nI b)), (2, .int (nI c0))] := hl
  generalize hH : s.heap = H at S ⊢
  generalize hlc : ([] : List Loc) = locs at S ⊢
  refine lv_iload_n hx hb dJ8_newLength_cabcc_0 rfl (lv_at hl 0 rfl) ?_
  refine lv_iload_n hx hb dJ8_newLength_cabcc_1 rfl (lv_at hl 1 rfl) ?_
  refine lv_iload_n hx hb dJ8_newLength_cabcc_2 rfl (lv_at hl 2 rfl) ?_
  refine x_max C hl.1 ⟨jl_RJ8_194, st_math_max, ni_math, cd_math_max⟩ (Nat.le_of_ble_eq_true rfl) (Nat.le_of_ble_eq_true rfl) (Nat.le_of_ble_eq_true rfl) (Nat.le_of_ble_eq_true rfl) dJ8_newLength_cabcc_3 ?_
  rw [nI_mx (by omega) (by omega)]
  refine lv_iadd hx hb dJ8_newLength_cabcc_6 ?_
  refine lv_topi (fun y9 hy9 => ?_)
  obtain rfl : y9 = nI (a + if b < c0 then c0 else b) := hy9.trans (nI_add _ _)
  refine lv_istore_n (lv' := [(3, .int (nI (a + if b < c0 then c0 else b))), (0, .int (nI a)), (1, .int (nI b)), (2, .int (nI c0))]) hx hb dJ8_newLength_cabcc_7 rfl hl (by decide) rfl (fun ls hl => ?_)
  refine lv_iconst (v := nI 0) hx hb dJ8_newLength_cabcc_8 (by decide) ?_
  refine lv_iload_n hx hb dJ8_newLength_cabcc_9 rfl (lv_at hl 0 rfl) ?_
  refine lv_icmp_ge (tgt := 21) hx hb dJ8_newLength_cabcc_10 (by decide) (fun c => absurd c (nI_ge (by split <;> omega) (by split <;> omega))) (fun _ => ?_)
  refine lv_iload_n hx hb dJ8_newLength_cabcc_13 rfl (lv_at hl 0 rfl) ?_
  refine lv_ldc (v := nI 2147483639) hx hb C.2.2.2.1 (C.2.2.2.2.1.w jk_RJ8_200) dJ8_newLength_cabcc_14 ?_
  refine lv_icmp_gt (tgt := 21) hx hb dJ8_newLength_cabcc_16 (by decide) (fun c => absurd c (nI_nlt (by split <;> omega) (by omega))) (fun _ => ?_)
  refine lv_iload_n hx hb dJ8_newLength_cabcc_19 rfl (lv_at hl 0 rfl) ?_
  exact z_iret C S.2.1 hr rfl ⟨rfl, S.1⟩ dJ8_newLength_cabcc_20
set_option maxHeartbeats 1000000 in
set_option maxRecDepth 100000 in
theorem k_isLatin1 {l : Launch} {g : GL} {Z : Nat} {b w n mm : Nat} {f : Nat → Int32} {wt : va_W} {xs : List Txt3} : Cj l g 1 yJ5_isLatin1_aae02 cJ5_isLatin1_aae02 1 (some .boolean) 0 0 Z [.ref b] (sb2 g b w n mm f wt) (xs) (Pk g (some (.int 1)) (sb2 g b w n mm f wt)) := by
  refine Met.ofW (cc := cJ5_isLatin1_aae02) (maxL := 1) (ret := (some .boolean)) (by decide) rfl ?_
  intro p e s m args below meth c s₁ B hml hv
  obtain ⟨rfl, hE, hLo, hZb, hZs, hP, hX⟩ := hv
  have hr : meth.sig.returnType = (some .boolean) := B.returns
  have C : Cx l g p s m meth c cJ5_isLatin1_aae02 1 RJ5 := ⟨B.exec, B.bytes, hml, findClass_of_methodNamed B.named, hE, hLo, B.notSynchronized⟩
  have S : SJ g Z s (sb2 g b w n mm f wt) (xs) s.heap [] := ⟨hP, va_S.rf, hZb, hZs, hX⟩
  have hx := C.1
  have hb := C.2.1
  have hl := lv_entry ([.ref b]) (n := 1) (Nat.le_of_ble_eq_true rfl)
  rw [lg_entry_eq]
  generalize (lg_sl ([.ref b]) ++ List.replicate (1 - (lg_sl ([.ref b])).length) Slot.unset).toArray = ls at hl ⊢
  have hl : lv_has ls 1 [(0, .ref b)] := hl
  generalize hH : s.heap = H at S ⊢
  generalize hlc : ([] : List Loc) = locs at S ⊢
  refine z_compact C S jf_RJ5_18 dJ5_isLatin1_aae02_0 ?_
  refine lv_if_eq (tgt := 17) hx hb dJ5_isLatin1_aae02_3 (by decide) (fun c => absurd c (by decide)) (fun _ => ?_)
  refine lv_aload_n hx hb dJ5_isLatin1_aae02_6 rfl (lv_at hl 0 rfl) ?_
  refine z_get C S inBJ4 (ci := 15) rfl 0 rfl 1 (by decide) rfl rfl jf_RJ5_22 dJ5_isLatin1_aae02_7 ?_
  refine lv_if_ne (tgt := 17) hx hb dJ5_isLatin1_aae02_10 (by decide) (fun c => absurd rfl c) (fun _ => ?_)
  refine lv_iconst (v := (1 : Int32)) hx hb dJ5_isLatin1_aae02_13 (by decide) ?_
  refine lv_goto (tgt := 18) hx hb dJ5_isLatin1_aae02_14 (by decide) ?_
  exact z_iret C S.2.1 hr rfl ⟨rfl, S.1⟩ dJ5_isLatin1_aae02_18
set_option maxHeartbeats 1000000 in
set_option maxRecDepth 100000 in
theorem k_getValue {l : Launch} {g : GL} {Z : Nat} {b w n mm : Nat} {f : Nat → Int32} {wt : va_W} {xs : List Txt3} : Cj l g 1 yJ5_getValue_6d5f1 cJ5_getValue_6d5f1 1 (some (.array .byte)) 0 0 Z [.ref b] (sb2 g b w n mm f wt) (xs) (Pk g (some (.ref w)) (sb2 g b w n mm f wt)) := by
  refine Met.ofW (cc := cJ5_getValue_6d5f1) (maxL := 1) (ret := (some (.array .byte))) (by decide) rfl ?_
  intro p e s m args below meth c s₁ B hml hv
  obtain ⟨rfl, hE, hLo, hZb, hZs, hP, hX⟩ := hv
  have hr : meth.sig.returnType = (some (.array .byte)) := B.returns
  have C : Cx l g p s m meth c cJ5_getValue_6d5f1 1 RJ5 := ⟨B.exec, B.bytes, hml, findClass_of_methodNamed B.named, hE, hLo, B.notSynchronized⟩
  have S : SJ g Z s (sb2 g b w n mm f wt) (xs) s.heap [] := ⟨hP, va_S.rf, hZb, hZs, hX⟩
  have hx := C.1
  have hb := C.2.1
  have hl := lv_entry ([.ref b]) (n := 1) (Nat.le_of_ble_eq_true rfl)
  rw [lg_entry_eq]
  generalize (lg_sl ([.ref b]) ++ List.replicate (1 - (lg_sl ([.ref b])).length) Slot.unset).toArray = ls at hl ⊢
  have hl : lv_has ls 1 [(0, .ref b)] := hl
  generalize hH : s.heap = H at S ⊢
  generalize hlc : ([] : List Loc) = locs at S ⊢
  refine lv_aload_n hx hb dJ5_getValue_6d5f1_0 rfl (lv_at hl 0 rfl) ?_
  refine z_get C S inBJ4 (ci := 15) rfl 0 rfl 0 (by decide) rfl rfl jf_RJ5_15 dJ5_getValue_6d5f1_1 ?_
  exact z_aret C S.2.1 hr (Or.inr ⟨_, rfl⟩) ⟨rfl, S.1⟩ dJ5_getValue_6d5f1_4
set_option maxHeartbeats 1000000 in
set_option maxRecDepth 100000 in
theorem k_alength {l : Launch} {g : GL} {Z : Nat} {b w n mm : Nat} {f : Nat → Int32} {wt : va_W} {xs : List Txt3} : Cj l g 1 yJ5_length_8abf5 cJ5_length_8abf5 1 (some .int) 0 0 Z [.ref b] (sb2 g b w n mm f wt) (xs) (Pk g (some (.int (nI n))) (sb2 g b w n mm f wt)) := by
  refine Met.ofW (cc := cJ5_length_8abf5) (maxL := 1) (ret := (some .int)) (by decide) rfl ?_
  intro p e s m args below meth c s₁ B hml hv
  obtain ⟨rfl, hE, hLo, hZb, hZs, hP, hX⟩ := hv
  have hr : meth.sig.returnType = (some .int) := B.returns
  have C : Cx l g p s m meth c cJ5_length_8abf5 1 RJ5 := ⟨B.exec, B.bytes, hml, findClass_of_methodNamed B.named, hE, hLo, B.notSynchronized⟩
  have S : SJ g Z s (sb2 g b w n mm f wt) (xs) s.heap [] := ⟨hP, va_S.rf, hZb, hZs, hX⟩
  have hx := C.1
  have hb := C.2.1
  have hl := lv_entry ([.ref b]) (n := 1) (Nat.le_of_ble_eq_true rfl)
  rw [lg_entry_eq]
  generalize (lg_sl ([.ref b]) ++ List.replicate (1 - (lg_sl ([.ref b])).length) Slot.unset).toArray = ls at hl ⊢
  have hl : lv_has ls 1 [(0, .ref b)] := hl
  generalize hH : s.heap = H at S ⊢
  generalize hlc : ([] : List Loc) = locs at S ⊢
  refine lv_aload_n hx hb dJ5_length_8abf5_0 rfl (lv_at hl 0 rfl) ?_
  refine z_get C S inBJ4 (ci := 15) rfl 0 rfl 3 (by decide) rfl rfl jf_RJ5_79 dJ5_length_8abf5_1 ?_
  exact z_iret C S.2.1 hr rfl ⟨rfl, S.1⟩ dJ5_length_8abf5_4
set_option maxHeartbeats 1000000 in
set_option maxRecDepth 100000 in
theorem k_blength {l : Launch} {g : GL} {Z : Nat} {b w n mm : Nat} {f : Nat → Int32} {wt : va_W} {xs : List Txt3} : Cj l g 2 yJ4_length_8abf5 cJ4_length_8abf5 1 (some .int) 0 0 Z [.ref b] (sb2 g b w n mm f wt) (xs) (Pk g (some (.int (nI n))) (sb2 g b w n mm f wt)) := by
  refine Met.ofW (cc := cJ4_length_8abf5) (maxL := 1) (ret := (some .int)) (by decide) rfl ?_
  intro p e s m args below meth c s₁ B hml hv
  obtain ⟨rfl, hE, hLo, hZb, hZs, hP, hX⟩ := hv
  have hr : meth.sig.returnType = (some .int) := B.returns
  have C : Cx l g p s m meth c cJ4_length_8abf5 1 RJ4 := ⟨B.exec, B.bytes, hml, findClass_of_methodNamed B.named, hE, hLo, B.notSynchronized⟩
  have S : SJ g Z s (sb2 g b w n mm f wt) (xs) s.heap [] := ⟨hP, va_S.rf, hZb, hZs, hX⟩
  have hx := C.1
  have hb := C.2.1
  have hl := lv_entry ([.ref b]) (n := 1) (Nat.le_of_ble_eq_true rfl)
  rw [lg_entry_eq]
  generalize (lg_sl ([.ref b]) ++ List.replicate (1 - (lg_sl ([.ref b])).length) Slot.unset).toArray = ls at hl ⊢
  have hl : lv_has ls 1 [(0, .ref b)] := hl
  generalize hH : s.heap = H at S ⊢
  generalize hlc : ([] : List Loc) = locs at S ⊢
  refine lv_aload_n hx hb dJ4_length_8abf5_0 rfl (lv_at hl 0 rfl) ?_
  refine z_callU C S (Nat.le_refl Z) S.zh S.1 (fun q hq => hq) (z_recv C S 0 rfl (T := TJ4) (N := 4) rfl) k_alength ⟨jc_J5_length_8abf5, jn_RJ5, jl_RJ4_343, ji_J5_length_8abf5, jm_J5_length_8abf5, jx_sup⟩ (by decide) rfl (rm_ok (by decide) (by decide)) hl.1 rfl (Nat.le_of_ble_eq_true rfl) ⟨Nat.le_of_ble_eq_true rfl, Nat.le_of_ble_eq_true rfl⟩ dJ4_length_8abf5_1 (fun v H1 locs1 hp hz hk hS => ?_)
  obtain ⟨rfl, hP⟩ := hp
  have S : SJ g Z s (sb2 g b w n mm f wt) (xs) H1 locs1 := S.old hS hP
  exact z_iret C S.2.1 hr rfl ⟨rfl, S.1⟩ dJ4_length_8abf5_4
set_option maxHeartbeats 1000000 in
set_option maxRecDepth 100000 in
theorem k_newCap {l : Launch} {g : GL} {Z : Nat} {q : Nat} {b w n mm : Nat} {f : Nat → Int32} {wt : va_W} {xs : List Txt3} (hm : mm < q) (hq : q ≤ 500) : Cj l g 3 yJ5_newCapacity_0f7a4 cJ5_newCapacity_0f7a4 6 (some .int) 0 0 Z [.ref b, .int (nI q)] (sb2 g b w n mm f wt) (xs) (Pk g (some (.int (nI (mm + if q - mm < mm + 2 then mm + 2 else q - mm)))) (sb2 g b w n mm f wt)) := by
  refine Met.ofW (cc := cJ5_newCapacity_0f7a4) (maxL := 6) (ret := (some .int)) (by decide) rfl ?_
  intro p e s m args below meth c s₁ B hml hv
  obtain ⟨rfl, hE, hLo, hZb, hZs, hP, hX⟩ := hv
  have hr : meth.sig.returnType = (some .int) := B.returns
  have C : Cx l g p s m meth c cJ5_newCapacity_0f7a4 6 RJ5 := ⟨B.exec, B.bytes, hml, findClass_of_methodNamed B.named, hE, hLo, B.notSynchronized⟩
  have S : SJ g Z s (sb2 g b w n mm f wt) (xs) s.heap [] := ⟨hP, va_S.rf, hZb, hZs, hX⟩
  have hx := C.1
  have hb := C.2.1
  have hl := lv_entry ([.ref b, .int (nI q)]) (n := 6) (Nat.le_of_ble_eq_true rfl)
  rw [lg_entry_eq]
  generalize (lg_sl ([.ref b, .int (nI q)]) ++ List.replicate (6 - (lg_sl ([.ref b, .int (nI q)])).length) Slot.unset).toArray = ls at hl ⊢
  have hl : lv_has ls 6 [(0, .ref b), (1, .int (nI q))] := hl
  generalize hH : s.heap = H at S ⊢
  generalize hlc : ([] : List Loc) = locs at S ⊢
  refine lv_aload_n hx hb dJ5_newCapacity_0f7a4_0 rfl (lv_at hl 0 rfl) ?_
  refine z_get C S inBJ4 (ci := 15) rfl 0 rfl 0 (by decide) rfl rfl jf_RJ5_15 dJ5_newCapacity_0f7a4_1 ?_
  refine z_alen C S 1 rfl dJ5_newCapacity_0f7a4_4 ?_
  refine lv_istore_n (lv' := [(2, .int (nI mm)), (0, .ref b), (1, .int (nI q))]) hx hb dJ5_newCapacity_0f7a4_5 rfl hl (by decide) rfl (fun ls hl => ?_)
  refine lv_iload_n hx hb dJ5_newCapacity_0f7a4_6 rfl (lv_at hl 2 rfl) ?_
  refine lv_aload_n hx hb dJ5_newCapacity_0f7a4_7 rfl (lv_at hl 1 rfl) ?_
  refine z_get C S inBJ4 (ci := 15) rfl 0 rfl 1 (by decide) rfl rfl jf_RJ5_22 dJ5_newCapacity_0f7a4_8 ?_
  refine lv_ishl hx hb dJ5_newCapacity_0f7a4_11 ?_
  refine lv_topi (fun y9 hy9 => ?_)
  obtain rfl : y9 = nI q := hy9.trans (sb_shl0 _)
  refine lv_istore_n (lv' := [(3, .int (nI q)), (2, .int (nI mm)), (0, .ref b), (1, .int (nI q))]) hx hb dJ5_newCapacity_0f7a4_12 rfl hl (by decide) rfl (fun ls hl => ?_)
  refine lv_iload_n hx hb dJ5_newCapacity_0f7a4_13 rfl (lv_at hl 0 rfl) ?_
  refine lv_iload_n hx hb dJ5_newCapacity_0f7a4_14 rfl (lv_at hl 1 rfl) ?_
  refine lv_isub hx hb dJ5_newCapacity_0f7a4_15 ?_
  refine lv_topi (fun y9 hy9 => ?_)
  obtain rfl : y9 = nI (q - mm) := hy9.trans (nI_sb (by omega) (by omega))
  refine lv_istore (lv' := [(4, .int (nI (q - mm))), (3, .int (nI q)), (2, .int (nI mm)), (0, .ref b), (1, .int (nI q))]) hx hb dJ5_newCapacity_0f7a4_16 hl (by decide) rfl (fun ls hl => ?_)
  refine lv_iload_n hx hb dJ5_newCapacity_0f7a4_18 rfl (lv_at hl 2 rfl) ?_
  refine lv_iload hx hb dJ5_newCapacity_0f7a4_19 (lv_at hl 0 rfl) ?_
  refine lv_iload_n hx hb dJ5_newCapacity_0f7a4_21 rfl (lv_at hl 2 rfl) ?_
  refine lv_iconst (v := nI 2) hx hb dJ5_newCapacity_0f7a4_22 (by decide) ?_
  refine lv_aload_n hx hb dJ5_newCapacity_0f7a4_23 rfl (lv_at hl 3 rfl) ?_
  refine z_get C S inBJ4 (ci := 15) rfl 0 rfl 1 (by decide) rfl rfl jf_RJ5_22 dJ5_newCapacity_0f7a4_24 ?_
  refine lv_ishl hx hb dJ5_newCapacity_0f7a4_27 ?_
  refine lv_topi (fun y9 hy9 => ?_)
  obtain rfl : y9 = nI 2 := hy9.trans (sb_shl0 _)
  refine lv_iadd hx hb dJ5_newCapacity_0f7a4_28 ?_
  refine lv_topi (fun y9 hy9 => ?_)
  obtain rfl : y9 = nI (mm + 2) := hy9.trans (nI_add _ _)
  refine z_callS C S (Nat.le_refl Z) S.zh S.1 (fun q hq => hq) (k_newLen (by omega) (by omega) (by omega) (by omega)) ⟨jc_J8_newLength_cabcc, jn_RJ8, jl_RJ5_114, jt_J8_newLength_cabcc⟩ ⟨by decide, by decide⟩ rfl (rm_ok (by decide) (by decide)) hl.1 rfl (Nat.le_of_ble_eq_true rfl) ⟨Nat.le_of_ble_eq_true rfl, Nat.le_of_ble_eq_true rfl⟩ dJ5_newCapacity_0f7a4_29 (fun v H1 locs1 hp hz hk hS => ?_)
  obtain ⟨rfl, hP⟩ := hp
  have S : SJ g Z s (sb2 g b w n mm f wt) (xs) H1 locs1 := S.old hS hP
  refine lv_istore (lv' := [(5, .int (nI (mm + if q - mm < mm + 2 then mm + 2 else q - mm))), (4, .int (nI (q - mm))), (3, .int (nI q)), (2, .int (nI mm)), (0, .ref b), (1, .int (nI q))]) hx hb dJ5_newCapacity_0f7a4_32 hl (by decide) rfl (fun ls hl => ?_)
  refine lv_iload hx hb dJ5_newCapacity_0f7a4_34 (lv_at hl 0 rfl) ?_
  refine lv_ldc (v := nI 2147483647) hx hb C.2.2.2.1 (C.2.2.2.2.1.w jk_RJ5_39) dJ5_newCapacity_0f7a4_36 ?_
  refine lv_icmp_ne (tgt := 51) hx hb dJ5_newCapacity_0f7a4_38 (by decide) (fun _ => ?_) (fun c => absurd c (nI_ne (by split <;> omega) (by split <;> omega) (by omega)))
  refine lv_iload hx hb dJ5_newCapacity_0f7a4_51 (lv_at hl 0 rfl) ?_
  refine lv_aload_n hx hb dJ5_newCapacity_0f7a4_53 rfl (lv_at hl 4 rfl) ?_
  refine z_get C S inBJ4 (ci := 15) rfl 0 rfl 1 (by decide) rfl rfl jf_RJ5_22 dJ5_newCapacity_0f7a4_54 ?_
  refine lv_ishr hx hb dJ5_newCapacity_0f7a4_57 ?_
  refine lv_topi (fun y9 hy9 => ?_)
  obtain rfl : y9 = nI (mm + if q - mm < mm + 2 then mm + 2 else q - mm) := hy9.trans (sb_shr0 _)
  exact z_iret C S.2.1 hr rfl ⟨rfl, S.1⟩ dJ5_newCapacity_0f7a4_58
set_option maxHeartbeats 1000000 in
set_option maxRecDepth 100000 in
theorem k_copyOf {l : Launch} {g : GL} {Z : Nat} {r : Nat} {b w n mm : Nat} {f : Nat → Int32} {xs : List Txt3} (hm : mm < r) (hr0 : r ≤ 1010) (hf : sb_Fit f) (hD : va_D (zA Z) (sb2 g b w n mm f [])) : Cj l g 2 yJ7_copyOf_9075b cJ7_copyOf_9075b 3 (some (.array .byte)) 1 1010 Z [.ref w, .int (nI r)] (sb2 g b w n mm f []) (xs) (fun v H => ∃ a, v = some (.ref a) ∧ va_P (gD g) vwCl (sb2 g b w n mm f [] ++ [(a, .inl (gT g 1, r, .inl (va_cpy f (fun _ => 0) 0 0 mm)))]) H ∧ va_D (zA Z) (sb2 g b w n mm f [] ++ [(a, .inl (gT g 1, r, .inl (va_cpy f (fun _ => 0) 0 0 mm)))])) := by
  refine Met.ofW (cc := cJ7_copyOf_9075b) (maxL := 3) (ret := (some (.array .byte))) (by decide) rfl ?_
  intro p e s m args below meth c s₁ B hml hv
  obtain ⟨rfl, hE, hLo, hZb, hZs, hP, hX⟩ := hv
  have hr : meth.sig.returnType = (some (.array .byte)) := B.returns
  have C : Cx l g p s m meth c cJ7_copyOf_9075b 3 RJ7 := ⟨B.exec, B.bytes, hml, findClass_of_methodNamed B.named, hE, hLo, B.notSynchronized⟩
  have S : SJ g Z s (sb2 g b w n mm f []) (xs) s.heap [] := ⟨hP, va_S.rf, hZb, hZs, hX⟩
  have hx := C.1
  have hb := C.2.1
  have hl := lv_entry ([.ref w, .int (nI r)]) (n := 3) (Nat.le_of_ble_eq_true rfl)
  rw [lg_entry_eq]
  generalize (lg_sl ([.ref w, .int (nI r)]) ++ List.replicate (3 - (lg_sl ([.ref w, .int (nI r)])).length) Slot.unset).toArray = ls at hl ⊢
  have hl : lv_has ls 3 [(0, .ref w), (1, .int (nI r))] := hl
  generalize hH : s.heap = H at S ⊢
  generalize hlc : ([] : List Loc) = locs at S ⊢
  refine lv_iload_n hx hb dJ7_copyOf_9075b_0 rfl (lv_at hl 1 rfl) ?_
  refine lv_aload_n hx hb dJ7_copyOf_9075b_1 rfl (lv_at hl 0 rfl) ?_
  refine z_alen C S 1 rfl dJ7_copyOf_9075b_2 ?_
  refine lv_icmp_ne (tgt := 14) hx hb dJ7_copyOf_9075b_3 (by decide) (fun _ => ?_) (fun c => absurd c (nI_ne (by omega) (by omega) (by omega)))
  refine lv_iload_n hx hb dJ7_copyOf_9075b_14 rfl (lv_at hl 1 rfl) ?_
  refine z_newB C S hD ac_byte (nI_pos (by omega)) (nI_clamp (by omega)) (by omega) (Nat.le_of_ble_eq_true rfl) (by show 0 + r ≤ 1010; omega) dJ7_copyOf_9075b_15 (fun H1 S hD => ?_)
  generalize H.size = a at S hD ⊢
  refine lv_astore_n (lv' := [(2, .ref a), (0, .ref w), (1, .int (nI r))]) hx hb dJ7_copyOf_9075b_17 rfl hl (by decide) rfl (fun ls hl => ?_)
  refine lv_aload_n hx hb dJ7_copyOf_9075b_18 rfl (lv_at hl 1 rfl) ?_
  refine lv_iconst (v := nI 0) hx hb dJ7_copyOf_9075b_19 (by decide) ?_
  refine lv_aload_n hx hb dJ7_copyOf_9075b_20 rfl (lv_at hl 0 rfl) ?_
  refine lv_iconst (v := nI 0) hx hb dJ7_copyOf_9075b_21 (by decide) ?_
  refine lv_aload_n hx hb dJ7_copyOf_9075b_22 rfl (lv_at hl 1 rfl) ?_
  refine z_alen C S 1 rfl dJ7_copyOf_9075b_23 ?_
  refine lv_iload_n hx hb dJ7_copyOf_9075b_24 rfl (lv_at hl 2 rfl) ?_
  refine x_min C hl.1 ⟨jl_RJ7_304, st_math_min, ni_math, cd_math_min⟩ (Nat.le_of_ble_eq_true rfl) (Nat.le_of_ble_eq_true rfl) (Nat.le_of_ble_eq_true rfl) (by show 0 + r ≤ 1010; omega) dJ7_copyOf_9075b_25 ?_
  rw [nI_mn (by omega) (by omega), if_neg (by omega)]
  refine z_copy C hl.1 S hD ⟨jl_RJ7_150, jw_nat, jw_st, jn_sys⟩ 1 2 rfl rfl (by omega) (by omega) (by omega) (by omega) hf (by decide) (by decide) dJ7_copyOf_9075b_28 (fun H1 locs1 S hD => ?_)
  refine lv_aload_n hx hb dJ7_copyOf_9075b_31 rfl (lv_at hl 0 rfl) ?_
  refine W.widen (k := 1) (n := 1010) (by decide) (by omega) ?_
  exact z_aret C S.2.1 hr (Or.inr ⟨_, rfl⟩) ⟨a, rfl, S.1, hD⟩ dJ7_copyOf_9075b_32
set_option maxHeartbeats 1000000 in
set_option maxRecDepth 100000 in
theorem k_ensure {l : Launch} {g : GL} {Z : Nat} {q : Nat} {b w n mm : Nat} {f : Nat → Int32} {xs : List Txt3} (hm : mm ≤ 1010) (hq5 : q ≤ 500) (hf : sb_Fit f) (hD : va_D (zA Z) (sb2 g b w n mm f [])) : Cj l g 4 yJ5_ensureCapacityInternal_d00df cJ5_ensureCapacityInternal_d00df 3 none 1 1010 Z [.ref b, .int (nI q)] (sb2 g b w n mm f []) (xs) (fun v H => v = none ∧ ∃ w1 m1 f1, va_P (gD g) vwCl (sb2 g b w1 n m1 f1 []) H ∧ va_D (zA Z) (sb2 g b w1 n m1 f1 []) ∧ q ≤ m1 ∧ m1 ≤ 1010 ∧ sb_Fit f1 ∧ ∀ j, j < mm → f1 j = f j) := by
  refine Met.ofW (cc := cJ5_ensureCapacityInternal_d00df) (maxL := 3) (ret := none) (by decide) rfl ?_
  intro p e s m args below meth c s₁ B hml hv
  obtain ⟨rfl, hE, hLo, hZb, hZs, hP, hX⟩ := hv
  have hr : meth.sig.returnType = none := B.returns
  have C : Cx l g p s m meth c cJ5_ensureCapacityInternal_d00df 3 RJ5 := ⟨B.exec, B.bytes, hml, findClass_of_methodNamed B.named, hE, hLo, B.notSynchronized⟩
  have S : SJ g Z s (sb2 g b w n mm f []) (xs) s.heap [] := ⟨hP, va_S.rf, hZb, hZs, hX⟩
  have hx := C.1
  have hb := C.2.1
  have hl := lv_entry ([.ref b, .int (nI q)]) (n := 3) (Nat.le_of_ble_eq_true rfl)
  rw [lg_entry_eq]
  generalize (lg_sl ([.ref b, .int (nI q)]) ++ List.replicate (3 - (lg_sl ([.ref b, .int (nI q)])).length) Slot.unset).toArray = ls at hl ⊢
  have hl : lv_has ls 3 [(0, .ref b), (1, .int (nI q))] := hl
  generalize hH : s.heap = H at S ⊢
  generalize hlc : ([] : List Loc) = locs at S ⊢
  by_cases hq : q ≤ mm
  · have hq := hq
    refine lv_aload_n hx hb dJ5_ensureCapacityInternal_d00df_0 rfl (lv_at hl 0 rfl) ?_
    refine z_get C S inBJ4 (ci := 15) rfl 0 rfl 0 (by decide) rfl rfl jf_RJ5_15 dJ5_ensureCapacityInternal_d00df_1 ?_
    refine z_alen C S 1 rfl dJ5_ensureCapacityInternal_d00df_4 ?_
    refine lv_aload_n hx hb dJ5_ensureCapacityInternal_d00df_5 rfl (lv_at hl 0 rfl) ?_
    refine z_get C S inBJ4 (ci := 15) rfl 0 rfl 1 (by decide) rfl rfl jf_RJ5_22 dJ5_ensureCapacityInternal_d00df_6 ?_
    refine lv_ishr hx hb dJ5_ensureCapacityInternal_d00df_9 ?_
    refine lv_topi (fun y9 hy9 => ?_)
    obtain rfl : y9 = nI mm := hy9.trans (sb_shr0 _)
    refine lv_istore_n (lv' := [(2, .int (nI mm)), (0, .ref b), (1, .int (nI q))]) hx hb dJ5_ensureCapacityInternal_d00df_10 rfl hl (by decide) rfl (fun ls hl => ?_)
    refine lv_iload_n hx hb dJ5_ensureCapacityInternal_d00df_11 rfl (lv_at hl 2 rfl) ?_
    refine lv_iload_n hx hb dJ5_ensureCapacityInternal_d00df_12 rfl (lv_at hl 0 rfl) ?_
    refine lv_isub hx hb dJ5_ensureCapacityInternal_d00df_13 ?_
    refine lv_if_le (tgt := 38) hx hb dJ5_ensureCapacityInternal_d00df_14 (by decide) (fun _ => ?_) (fun c => absurd (by rw [Int32.le_iff_toInt_le, pk_sub_toInt (by omega) (by omega), Int32.toInt_zero]; omega) c)
    refine W.widen (k := 1) (n := 1010) (by decide) (by decide) ?_
    exact z_vret C S.2.1 hr ⟨rfl, w, mm, f, S.1, hD, hq, hm, hf, fun _ _ => rfl⟩ dJ5_ensureCapacityInternal_d00df_38
  · have hq : mm < q := Nat.lt_of_not_le hq
    refine lv_aload_n hx hb dJ5_ensureCapacityInternal_d00df_0 rfl (lv_at hl 0 rfl) ?_
    refine z_get C S inBJ4 (ci := 15) rfl 0 rfl 0 (by decide) rfl rfl jf_RJ5_15 dJ5_ensureCapacityInternal_d00df_1 ?_
    refine z_alen C S 1 rfl dJ5_ensureCapacityInternal_d00df_4 ?_
    refine lv_aload_n hx hb dJ5_ensureCapacityInternal_d00df_5 rfl (lv_at hl 0 rfl) ?_
    refine z_get C S inBJ4 (ci := 15) rfl 0 rfl 1 (by decide) rfl rfl jf_RJ5_22 dJ5_ensureCapacityInternal_d00df_6 ?_
    refine lv_ishr hx hb dJ5_ensureCapacityInternal_d00df_9 ?_
    refine lv_topi (fun y9 hy9 => ?_)
    obtain rfl : y9 = nI mm := hy9.trans (sb_shr0 _)
    refine lv_istore_n (lv' := [(2, .int (nI mm)), (0, .ref b), (1, .int (nI q))]) hx hb dJ5_ensureCapacityInternal_d00df_10 rfl hl (by decide) rfl (fun ls hl => ?_)
    refine lv_iload_n hx hb dJ5_ensureCapacityInternal_d00df_11 rfl (lv_at hl 2 rfl) ?_
    refine lv_iload_n hx hb dJ5_ensureCapacityInternal_d00df_12 rfl (lv_at hl 0 rfl) ?_
    refine lv_isub hx hb dJ5_ensureCapacityInternal_d00df_13 ?_
    refine lv_if_le (tgt := 38) hx hb dJ5_ensureCapacityInternal_d00df_14 (by decide) (fun c => absurd c (by rw [Int32.le_iff_toInt_le, pk_sub_toInt (by omega) (by omega), Int32.toInt_zero]; omega)) (fun _ => ?_)
    refine lv_aload_n hx hb dJ5_ensureCapacityInternal_d00df_17 rfl (lv_at hl 1 rfl) ?_
    refine lv_aload_n hx hb dJ5_ensureCapacityInternal_d00df_18 rfl (lv_at hl 1 rfl) ?_
    refine z_get C S inBJ4 (ci := 15) rfl 0 rfl 0 (by decide) rfl rfl jf_RJ5_15 dJ5_ensureCapacityInternal_d00df_19 ?_
    refine lv_aload_n hx hb dJ5_ensureCapacityInternal_d00df_22 rfl (lv_at hl 1 rfl) ?_
    refine lv_iload_n hx hb dJ5_ensureCapacityInternal_d00df_23 rfl (lv_at hl 2 rfl) ?_
    refine z_callV (Cn := RJ4) C S (Nat.le_refl Z) S.zh S.1 (fun q hq => hq) (z_recv C S 0 rfl (T := TJ4) (N := 4) rfl) (k_newCap (by omega) hq5) ⟨jc_J5_newCapacity_0f7a4, jn_RJ5, jl_RJ5_104, ji_J5_newCapacity_0f7a4⟩ (sel_priv rfl (C.2.2.2.2.1.w js_RJ4_J5_isLatin1_aae02) (C.2.2.2.2.1.w jp_J5_newCapacity_0f7a4) (C.2.2.2.2.1.w ji_J5_newCapacity_0f7a4)) ⟨by decide, by decide⟩ rfl (rm_ok (by decide) (by decide)) hl.1 rfl (Nat.le_of_ble_eq_true rfl) ⟨Nat.le_of_ble_eq_true rfl, Nat.le_of_ble_eq_true rfl⟩ dJ5_ensureCapacityInternal_d00df_24 (fun v H1 locs1 hp hz hk hS => ?_)
    obtain ⟨rfl, hP⟩ := hp
    have S : SJ g Z s (sb2 g b w n mm f []) (xs) H1 locs1 := S.old hS hP
    refine lv_aload_n hx hb dJ5_ensureCapacityInternal_d00df_27 rfl (lv_at hl 1 rfl) ?_
    refine z_get C S inBJ4 (ci := 15) rfl 0 rfl 1 (by decide) rfl rfl jf_RJ5_22 dJ5_ensureCapacityInternal_d00df_28 ?_
    refine lv_ishl hx hb dJ5_ensureCapacityInternal_d00df_31 ?_
    refine lv_topi (fun y9 hy9 => ?_)
    obtain rfl : y9 = nI (mm + if q - mm < mm + 2 then mm + 2 else q - mm) := hy9.trans (sb_shl0 _)
    refine z_callS C S (Nat.le_refl Z) S.zh S.1 (fun q hq => hq) (k_copyOf (by split <;> omega) (by split <;> omega) hf hD) ⟨jc_J7_copyOf_9075b, jn_RJ7, jl_RJ5_108, jt_J7_copyOf_9075b⟩ ⟨by decide, by decide⟩ rfl (rm_ok (by decide) (by decide)) hl.1 rfl (Nat.le_of_ble_eq_true rfl) ⟨Nat.le_of_ble_eq_true rfl, Nat.le_of_ble_eq_true rfl⟩ dJ5_ensureCapacityInternal_d00df_32 (fun v H1 locs1 hp hz hk hS => ?_)
    obtain ⟨a, rfl, hP, hD⟩ := hp
    have S : SJ g Z s _ (xs) H1 locs1 := S.old hS hP
    refine z_put C S hD inBJ4 tyJ4_ok nmJ4 (ci := 15) rfl 0 rfl 0 (by decide) (Nat.le_of_ble_eq_true rfl) rfl rfl rfl rfl jf_RJ5_15 dJ5_ensureCapacityInternal_d00df_35 (fun H1 locs1 S hD => ?_)
    have hP := S.1.sub [0, 2] rfl
    have hD : va_D (zA Z) (sb2 g b a n (mm + if q - mm < mm + 2 then mm + 2 else q - mm) (va_cpy f (fun _ => 0) 0 0 mm) []) := hD.sub [0, 2] rfl rfl
    exact z_vret C S.2.1 hr ⟨rfl, a, _, _, hP, hD, by split <;> omega, by split <;> omega, sb_fitC hf sb_fit0, fun j hj => sb_cpy0 hj⟩ dJ5_ensureCapacityInternal_d00df_38
