/-! ===== texts: their letters; append of a text ===== -/
theorem asc_and : ∀ {c : Nat}, c < 128 → nI c &&& (255 : Int32) = nI c := by decide +kernel
theorem asc_ch : ∀ {c : Nat}, c < 128 → ((nI c).toUInt32 % 65536).toInt32 = nI c := by decide +kernel
theorem asc_nc : ∀ {c : Nat}, c < 128 → narrow .char (.int (nI c)) = .int (nI c) := by decide +kernel
theorem asc_b : ∀ {c : Nat}, c < 128 → (nI c).toInt8.toInt32 = nI c := by decide +kernel
theorem asc_f : ∀ {c : Nat}, c < 128 → fits .byte (.int (nI c)) = true := by decide +kernel
theorem asc_fit {t : List Nat} (h : ∀ c ∈ t, c < 128) : sb_Fit (fun j => nI (t.getD j 0)) := by
  intro j
  refine asc_f ?_
  rw [List.getD_eq_getElem?_getD]
  cases hj : t[j]? with
  | none => exact Nat.zero_lt_succ _
  | some c => exact h c (List.mem_of_getElem? hj)
set_option maxRecDepth 100000 in
theorem jf_RJ0_38 : Cond.fieldLink RJ0 38 "java/lang/String" "COMPACT_STRINGS" "Z" ∈ BW := bw_in (List.mem_of_getElem? (i := 592) (by rfl)) (by rfl)
set_option maxRecDepth 100000 in
theorem jf_RJ0_15 : Cond.fieldLink RJ0 15 "java/lang/String" "coder" "B" ∈ BW := bw_in (List.mem_of_getElem? (i := 779) (by rfl)) (by rfl)
set_option maxRecDepth 100000 in
theorem jf_RJ0_9 : Cond.fieldLink RJ0 9 "java/lang/String" "value" "[B" ∈ BW := bw_in (List.mem_of_getElem? (i := 778) (by rfl)) (by rfl)
set_option maxRecDepth 100000 in
theorem js_RJ0_J0_coder_7d493 : Cond.selects RJ0 yJ0_coder_7d493 yJ0_coder_7d493 ∈ BW := bw_in (List.mem_of_getElem? (i := 590) (by rfl)) (by rfl)
set_option maxRecDepth 100000 in
theorem jc_J0_coder_7d493 : Cond.code yJ0_coder_7d493 cJ0_coder_7d493 1 (some .byte) ∈ BW := bw_in (List.mem_of_getElem? (i := 591) (by rfl)) (by rfl)
set_option maxRecDepth 100000 in
theorem ji_J0_coder_7d493 : Cond.instanceMethod yJ0_coder_7d493 ∈ BW := bw_in (List.mem_of_getElem? (i := 589) (by rfl)) (by rfl)
set_option maxRecDepth 100000 in
theorem jf_RJ0_1053 : Cond.fieldLink RJ0 1053 "jdk/internal/util/Preconditions" "SIOOBE_FORMATTER" "Ljava/util/function/BiFunction;" ∈ BW := bw_in (List.mem_of_getElem? (i := 570) (by rfl)) (by rfl)
set_option maxRecDepth 100000 in
theorem jc_J3_checkIndex_8e157 : Cond.code yJ3_checkIndex_8e157 cJ3_checkIndex_8e157 3 (some .int) ∈ BW := bw_in (List.mem_of_getElem? (i := 816) (by rfl)) (by rfl)
set_option maxRecDepth 100000 in
theorem jt_J3_checkIndex_8e157 : Cond.static yJ3_checkIndex_8e157 ∈ BW := bw_in (List.mem_of_getElem? (i := 815) (by rfl)) (by rfl)
set_option maxRecDepth 100000 in
theorem jc_J0_checkIndex_df160 : Cond.code yJ0_checkIndex_df160 cJ0_checkIndex_df160 2 none ∈ BW := bw_in (List.mem_of_getElem? (i := 813) (by rfl)) (by rfl)
set_option maxRecDepth 100000 in
theorem jt_J0_checkIndex_df160 : Cond.static yJ0_checkIndex_df160 ∈ BW := bw_in (List.mem_of_getElem? (i := 812) (by rfl)) (by rfl)
set_option maxRecDepth 100000 in
theorem js_RJ0_J0_isLatin1_aae02 : Cond.selects RJ0 yJ0_isLatin1_aae02 yJ0_isLatin1_aae02 ∈ BW := bw_in (List.mem_of_getElem? (i := 977) (by rfl)) (by rfl)
set_option maxRecDepth 100000 in
theorem jc_J0_isLatin1_aae02 : Cond.code yJ0_isLatin1_aae02 cJ0_isLatin1_aae02 1 (some .boolean) ∈ BW := bw_in (List.mem_of_getElem? (i := 978) (by rfl)) (by rfl)
set_option maxRecDepth 100000 in
theorem ji_J0_isLatin1_aae02 : Cond.instanceMethod yJ0_isLatin1_aae02 ∈ BW := bw_in (List.mem_of_getElem? (i := 976) (by rfl)) (by rfl)
set_option maxRecDepth 100000 in
theorem jc_J1_charAt_3b067 : Cond.code yJ1_charAt_3b067 cJ1_charAt_3b067 2 (some .char) ∈ BW := bw_in (List.mem_of_getElem? (i := 981) (by rfl)) (by rfl)
set_option maxRecDepth 100000 in
theorem jt_J1_charAt_3b067 : Cond.static yJ1_charAt_3b067 ∈ BW := bw_in (List.mem_of_getElem? (i := 980) (by rfl)) (by rfl)
set_option maxRecDepth 100000 in
theorem jl_RJ5_40 : Cond.methodLink RJ5 40 yJ0_coder_7d493 ∈ BW := bw_in (List.mem_of_getElem? (i := 601) (by rfl)) (by rfl)
set_option maxRecDepth 100000 in
theorem jl_RJ0_212 : Cond.methodLink RJ0 212 arraycopyName ∈ BW := bw_in (List.mem_of_getElem? (i := 625) (by rfl)) (by rfl)
set_option maxRecDepth 100000 in
theorem jp_J5_inflateIfNeededFor_a7421 : Cond.privateMethod yJ5_inflateIfNeededFor_a7421 ∈ BW := bw_in (List.mem_of_getElem? (i := 598) (by rfl)) (by rfl)
set_option maxRecDepth 100000 in
theorem ji_J5_inflateIfNeededFor_a7421 : Cond.instanceMethod yJ5_inflateIfNeededFor_a7421 ∈ BW := bw_in (List.mem_of_getElem? (i := 599) (by rfl)) (by rfl)
set_option maxRecDepth 100000 in
theorem jc_J5_inflateIfNeededFor_a7421 : Cond.code yJ5_inflateIfNeededFor_a7421 cJ5_inflateIfNeededFor_a7421 2 none ∈ BW := bw_in (List.mem_of_getElem? (i := 600) (by rfl)) (by rfl)
set_option maxRecDepth 100000 in
theorem jl_RJ5_397 : Cond.methodLink RJ5 397 yJ5_inflateIfNeededFor_a7421 ∈ BW := bw_in (List.mem_of_getElem? (i := 597) (by rfl)) (by rfl)
set_option maxRecDepth 100000 in
theorem js_RJ0_J0_getBytes_840e7 : Cond.selects RJ0 yJ0_getBytes_840e7 yJ0_getBytes_840e7 ∈ BW := bw_in (List.mem_of_getElem? (i := 623) (by rfl)) (by rfl)
set_option maxRecDepth 100000 in
theorem jc_J0_getBytes_840e7 : Cond.code yJ0_getBytes_840e7 cJ0_getBytes_840e7 4 none ∈ BW := bw_in (List.mem_of_getElem? (i := 624) (by rfl)) (by rfl)
set_option maxRecDepth 100000 in
theorem jl_RJ5_399 : Cond.methodLink RJ5 399 yJ0_getBytes_840e7 ∈ BW := bw_in (List.mem_of_getElem? (i := 621) (by rfl)) (by rfl)
set_option maxRecDepth 100000 in
theorem ji_J0_getBytes_840e7 : Cond.instanceMethod yJ0_getBytes_840e7 ∈ BW := bw_in (List.mem_of_getElem? (i := 622) (by rfl)) (by rfl)
set_option maxRecDepth 100000 in
theorem js_RJ0_J0_length_8abf5 : Cond.selects RJ0 yJ0_length_8abf5 yJ0_length_8abf5 ∈ BW := bw_in (List.mem_of_getElem? (i := 586) (by rfl)) (by rfl)
set_option maxRecDepth 100000 in
theorem jc_J0_length_8abf5 : Cond.code yJ0_length_8abf5 cJ0_length_8abf5 1 (some .int) ∈ BW := bw_in (List.mem_of_getElem? (i := 587) (by rfl)) (by rfl)
set_option maxRecDepth 100000 in
theorem jl_RJ5_32 : Cond.methodLink RJ5 32 yJ0_length_8abf5 ∈ BW := bw_in (List.mem_of_getElem? (i := 584) (by rfl)) (by rfl)
set_option maxRecDepth 100000 in
theorem ji_J0_length_8abf5 : Cond.instanceMethod yJ0_length_8abf5 ∈ BW := bw_in (List.mem_of_getElem? (i := 585) (by rfl)) (by rfl)
set_option maxRecDepth 100000 in
theorem jp_J5_ensureCapacityInternal_d00df : Cond.privateMethod yJ5_ensureCapacityInternal_d00df ∈ BW := bw_in (List.mem_of_getElem? (i := 519) (by rfl)) (by rfl)
set_option maxRecDepth 100000 in
theorem ji_J5_ensureCapacityInternal_d00df : Cond.instanceMethod yJ5_ensureCapacityInternal_d00df ∈ BW := bw_in (List.mem_of_getElem? (i := 520) (by rfl)) (by rfl)
set_option maxRecDepth 100000 in
theorem jc_J5_ensureCapacityInternal_d00df : Cond.code yJ5_ensureCapacityInternal_d00df cJ5_ensureCapacityInternal_d00df 3 none ∈ BW := bw_in (List.mem_of_getElem? (i := 521) (by rfl)) (by rfl)
set_option maxRecDepth 100000 in
theorem jl_RJ5_100 : Cond.methodLink RJ5 100 yJ5_ensureCapacityInternal_d00df ∈ BW := bw_in (List.mem_of_getElem? (i := 518) (by rfl)) (by rfl)
set_option maxRecDepth 100000 in
theorem jp_J5_putStringAt_47b60 : Cond.privateMethod yJ5_putStringAt_47b60 ∈ BW := bw_in (List.mem_of_getElem? (i := 594) (by rfl)) (by rfl)
set_option maxRecDepth 100000 in
theorem ji_J5_putStringAt_47b60 : Cond.instanceMethod yJ5_putStringAt_47b60 ∈ BW := bw_in (List.mem_of_getElem? (i := 595) (by rfl)) (by rfl)
set_option maxRecDepth 100000 in
theorem jc_J5_putStringAt_47b60 : Cond.code yJ5_putStringAt_47b60 cJ5_putStringAt_47b60 3 none ∈ BW := bw_in (List.mem_of_getElem? (i := 596) (by rfl)) (by rfl)
set_option maxRecDepth 100000 in
theorem jl_RJ5_208 : Cond.methodLink RJ5 208 yJ5_putStringAt_47b60 ∈ BW := bw_in (List.mem_of_getElem? (i := 593) (by rfl)) (by rfl)
set_option maxRecDepth 100000 in
theorem jc_J5_append_cf1ce : Cond.code yJ5_append_cf1ce cJ5_append_cf1ce 3 (some (.object "java/lang/AbstractStringBuilder")) ∈ BW := bw_in (List.mem_of_getElem? (i := 513) (by rfl)) (by rfl)
set_option maxRecDepth 100000 in
theorem jl_RJ4_29 : Cond.methodLink RJ4 29 yJ5_append_cf1ce ∈ BW := bw_in (List.mem_of_getElem? (i := 511) (by rfl)) (by rfl)
set_option maxRecDepth 100000 in
theorem ji_J5_append_cf1ce : Cond.instanceMethod yJ5_append_cf1ce ∈ BW := bw_in (List.mem_of_getElem? (i := 512) (by rfl)) (by rfl)
set_option maxRecDepth 100000 in
theorem jm_J5_append_cf1ce : Cond.sameMethod RJ5 RJ5 "append" "(Ljava/lang/String;)Ljava/lang/AbstractStringBuilder;" ∈ BW := bw_in (List.mem_of_getElem? (i := 1547) (by rfl)) (by rfl)
theorem dJ5_inflateIfNeededFor_a7421_0 : decode cJ5_inflateIfNeededFor_a7421 0 = .ok (.getstatic 18, 3) := by decide +kernel
theorem dJ5_inflateIfNeededFor_a7421_3 : decode cJ5_inflateIfNeededFor_a7421 3 = .ok (.ifCond .eq 18, 3) := by decide +kernel
theorem dJ5_inflateIfNeededFor_a7421_6 : decode cJ5_inflateIfNeededFor_a7421 6 = .ok (.aload_n 0, 1) := by decide +kernel
theorem dJ5_inflateIfNeededFor_a7421_7 : decode cJ5_inflateIfNeededFor_a7421 7 = .ok (.getfield 22, 3) := by decide +kernel
theorem dJ5_inflateIfNeededFor_a7421_10 : decode cJ5_inflateIfNeededFor_a7421 10 = .ok (.aload_n 1, 1) := by decide +kernel
theorem dJ5_inflateIfNeededFor_a7421_11 : decode cJ5_inflateIfNeededFor_a7421 11 = .ok (.invokevirtual 40, 3) := by decide +kernel
theorem dJ5_inflateIfNeededFor_a7421_14 : decode cJ5_inflateIfNeededFor_a7421 14 = .ok (.if_icmp .eq 7, 3) := by decide +kernel
theorem dJ5_inflateIfNeededFor_a7421_21 : decode cJ5_inflateIfNeededFor_a7421 21 = .ok (.return_, 1) := by decide +kernel
theorem dJ0_getBytes_840e7_0 : decode cJ0_getBytes_840e7 0 = .ok (.aload_n 0, 1) := by decide +kernel
theorem dJ0_getBytes_840e7_1 : decode cJ0_getBytes_840e7 1 = .ok (.invokevirtual 335, 3) := by decide +kernel
theorem dJ0_getBytes_840e7_4 : decode cJ0_getBytes_840e7 4 = .ok (.iload_n 3, 1) := by decide +kernel
theorem dJ0_getBytes_840e7_5 : decode cJ0_getBytes_840e7 5 = .ok (.if_icmp .ne 23, 3) := by decide +kernel
theorem dJ0_getBytes_840e7_8 : decode cJ0_getBytes_840e7 8 = .ok (.aload_n 0, 1) := by decide +kernel
theorem dJ0_getBytes_840e7_9 : decode cJ0_getBytes_840e7 9 = .ok (.getfield 9, 3) := by decide +kernel
theorem dJ0_getBytes_840e7_12 : decode cJ0_getBytes_840e7 12 = .ok (.iconst 0, 1) := by decide +kernel
theorem dJ0_getBytes_840e7_13 : decode cJ0_getBytes_840e7 13 = .ok (.aload_n 1, 1) := by decide +kernel
theorem dJ0_getBytes_840e7_14 : decode cJ0_getBytes_840e7 14 = .ok (.iload_n 2, 1) := by decide +kernel
theorem dJ0_getBytes_840e7_15 : decode cJ0_getBytes_840e7 15 = .ok (.iload_n 3, 1) := by decide +kernel
theorem dJ0_getBytes_840e7_16 : decode cJ0_getBytes_840e7 16 = .ok (.ishl, 1) := by decide +kernel
theorem dJ0_getBytes_840e7_17 : decode cJ0_getBytes_840e7 17 = .ok (.aload_n 0, 1) := by decide +kernel
theorem dJ0_getBytes_840e7_18 : decode cJ0_getBytes_840e7 18 = .ok (.getfield 9, 3) := by decide +kernel
theorem dJ0_getBytes_840e7_21 : decode cJ0_getBytes_840e7 21 = .ok (.arraylength, 1) := by decide +kernel
theorem dJ0_getBytes_840e7_22 : decode cJ0_getBytes_840e7 22 = .ok (.invokestatic 212, 3) := by decide +kernel
theorem dJ0_getBytes_840e7_25 : decode cJ0_getBytes_840e7 25 = .ok (.goto 18, 3) := by decide +kernel
theorem dJ0_getBytes_840e7_43 : decode cJ0_getBytes_840e7 43 = .ok (.return_, 1) := by decide +kernel
theorem dJ5_putStringAt_47b60_0 : decode cJ5_putStringAt_47b60 0 = .ok (.aload_n 0, 1) := by decide +kernel
theorem dJ5_putStringAt_47b60_1 : decode cJ5_putStringAt_47b60 1 = .ok (.aload_n 2, 1) := by decide +kernel
theorem dJ5_putStringAt_47b60_2 : decode cJ5_putStringAt_47b60 2 = .ok (.invokevirtual 397, 3) := by decide +kernel
theorem dJ5_putStringAt_47b60_5 : decode cJ5_putStringAt_47b60 5 = .ok (.aload_n 2, 1) := by decide +kernel
theorem dJ5_putStringAt_47b60_6 : decode cJ5_putStringAt_47b60 6 = .ok (.aload_n 0, 1) := by decide +kernel
theorem dJ5_putStringAt_47b60_7 : decode cJ5_putStringAt_47b60 7 = .ok (.getfield 15, 3) := by decide +kernel
theorem dJ5_putStringAt_47b60_10 : decode cJ5_putStringAt_47b60 10 = .ok (.iload_n 1, 1) := by decide +kernel
theorem dJ5_putStringAt_47b60_11 : decode cJ5_putStringAt_47b60 11 = .ok (.aload_n 0, 1) := by decide +kernel
theorem dJ5_putStringAt_47b60_12 : decode cJ5_putStringAt_47b60 12 = .ok (.getfield 22, 3) := by decide +kernel
theorem dJ5_putStringAt_47b60_15 : decode cJ5_putStringAt_47b60 15 = .ok (.invokevirtual 399, 3) := by decide +kernel
theorem dJ5_putStringAt_47b60_18 : decode cJ5_putStringAt_47b60 18 = .ok (.return_, 1) := by decide +kernel
theorem dJ5_append_cf1ce_0 : decode cJ5_append_cf1ce 0 = .ok (.aload_n 1, 1) := by decide +kernel
theorem dJ5_append_cf1ce_1 : decode cJ5_append_cf1ce 1 = .ok (.ifnonnull 8, 3) := by decide +kernel
theorem dJ5_append_cf1ce_9 : decode cJ5_append_cf1ce 9 = .ok (.aload_n 1, 1) := by decide +kernel
theorem dJ5_append_cf1ce_10 : decode cJ5_append_cf1ce 10 = .ok (.invokevirtual 32, 3) := by decide +kernel
theorem dJ5_append_cf1ce_13 : decode cJ5_append_cf1ce 13 = .ok (.istore_n 2, 1) := by decide +kernel
theorem dJ5_append_cf1ce_14 : decode cJ5_append_cf1ce 14 = .ok (.aload_n 0, 1) := by decide +kernel
theorem dJ5_append_cf1ce_15 : decode cJ5_append_cf1ce 15 = .ok (.aload_n 0, 1) := by decide +kernel
theorem dJ5_append_cf1ce_16 : decode cJ5_append_cf1ce 16 = .ok (.getfield 79, 3) := by decide +kernel
theorem dJ5_append_cf1ce_19 : decode cJ5_append_cf1ce 19 = .ok (.iload_n 2, 1) := by decide +kernel
theorem dJ5_append_cf1ce_20 : decode cJ5_append_cf1ce 20 = .ok (.iadd, 1) := by decide +kernel
theorem dJ5_append_cf1ce_21 : decode cJ5_append_cf1ce 21 = .ok (.invokevirtual 100, 3) := by decide +kernel
theorem dJ5_append_cf1ce_24 : decode cJ5_append_cf1ce 24 = .ok (.aload_n 0, 1) := by decide +kernel
theorem dJ5_append_cf1ce_25 : decode cJ5_append_cf1ce 25 = .ok (.aload_n 0, 1) := by decide +kernel
theorem dJ5_append_cf1ce_26 : decode cJ5_append_cf1ce 26 = .ok (.getfield 79, 3) := by decide +kernel
theorem dJ5_append_cf1ce_29 : decode cJ5_append_cf1ce 29 = .ok (.aload_n 1, 1) := by decide +kernel
theorem dJ5_append_cf1ce_30 : decode cJ5_append_cf1ce 30 = .ok (.invokevirtual 208, 3) := by decide +kernel
theorem dJ5_append_cf1ce_33 : decode cJ5_append_cf1ce 33 = .ok (.aload_n 0, 1) := by decide +kernel
theorem dJ5_append_cf1ce_34 : decode cJ5_append_cf1ce 34 = .ok (.dup, 1) := by decide +kernel
theorem dJ5_append_cf1ce_35 : decode cJ5_append_cf1ce 35 = .ok (.getfield 79, 3) := by decide +kernel
theorem dJ5_append_cf1ce_38 : decode cJ5_append_cf1ce 38 = .ok (.iload_n 2, 1) := by decide +kernel
theorem dJ5_append_cf1ce_39 : decode cJ5_append_cf1ce 39 = .ok (.iadd, 1) := by decide +kernel
theorem dJ5_append_cf1ce_40 : decode cJ5_append_cf1ce 40 = .ok (.putfield 79, 3) := by decide +kernel
theorem dJ5_append_cf1ce_43 : decode cJ5_append_cf1ce 43 = .ok (.aload_n 0, 1) := by decide +kernel
theorem dJ5_append_cf1ce_44 : decode cJ5_append_cf1ce 44 = .ok (.areturn, 1) := by decide +kernel
theorem dJ4_append_15ec4_0 : decode cJ4_append_15ec4 0 = .ok (.aload_n 0, 1) := by decide +kernel
theorem dJ4_append_15ec4_1 : decode cJ4_append_15ec4 1 = .ok (.aload_n 1, 1) := by decide +kernel
theorem dJ4_append_15ec4_2 : decode cJ4_append_15ec4 2 = .ok (.invokespecial 29, 3) := by decide +kernel
theorem dJ4_append_15ec4_5 : decode cJ4_append_15ec4 5 = .ok (.pop, 1) := by decide +kernel
theorem dJ4_append_15ec4_6 : decode cJ4_append_15ec4 6 = .ok (.aload_n 0, 1) := by decide +kernel
theorem dJ4_append_15ec4_7 : decode cJ4_append_15ec4 7 = .ok (.areturn, 1) := by decide +kernel
set_option maxHeartbeats 1000000 in
set_option maxRecDepth 100000 in
theorem k_coder {l : Launch} {g : GL} {Z : Nat} {q : Txt3} {ws : va_W} {xs : List Txt3} (hq : q ∈ xs) : Cj l g 1 yJ0_coder_7d493 cJ0_coder_7d493 1 (some .byte) 0 0 Z [.ref q.1] (ws) (xs) (Pk g (some (.int 0)) ws) := by
  refine Met.ofW (cc := cJ0_coder_7d493) (maxL := 1) (ret := (some .byte)) (by decide) rfl ?_
  intro p e s m args below meth c s₁ B hml hv
  obtain ⟨rfl, hE, hLo, hZb, hZs, hP, hX⟩ := hv
  have hr : meth.sig.returnType = (some .byte) := B.returns
  have C : Cx l g p s m meth c cJ0_coder_7d493 1 RJ0 := ⟨B.exec, B.bytes, hml, findClass_of_methodNamed B.named, hE, hLo, B.notSynchronized⟩
  have S : SJ g Z s (ws) (xs) s.heap [] := ⟨hP, va_S.rf, hZb, hZs, hX⟩
  have hx := C.1
  have hb := C.2.1
  have hl := lv_entry ([.ref q.1]) (n := 1) (Nat.le_of_ble_eq_true rfl)
  rw [lg_entry_eq]
  generalize (lg_sl ([.ref q.1]) ++ List.replicate (1 - (lg_sl ([.ref q.1])).length) Slot.unset).toArray = ls at hl ⊢
  have hl : lv_has ls 1 [(0, .ref q.1)] := hl
  generalize hH : s.heap = H at S ⊢
  generalize hlc : ([] : List Loc) = locs at S ⊢
  refine z_compact C S jf_RJ0_38 dJ0_coder_7d493_0 ?_
  refine lv_if_eq (tgt := 13) hx hb dJ0_coder_7d493_3 (by decide) (fun c => absurd c (by decide)) (fun _ => ?_)
  refine lv_aload_n hx hb dJ0_coder_7d493_6 rfl (lv_at hl 0 rfl) ?_
  refine z_scoder C S hq jf_RJ0_15 dJ0_coder_7d493_7 ?_
  refine lv_goto (tgt := 14) hx hb dJ0_coder_7d493_10 (by decide) ?_
  exact z_iret C S.2.1 hr rfl ⟨rfl, S.1⟩ dJ0_coder_7d493_14
set_option maxHeartbeats 1000000 in
set_option maxRecDepth 100000 in
theorem k_slength {l : Launch} {g : GL} {Z : Nat} {q : Txt3} {ws : va_W} {xs : List Txt3} (hq : q ∈ xs) : Cj l g 2 yJ0_length_8abf5 cJ0_length_8abf5 1 (some .int) 0 0 Z [.ref q.1] (ws) (xs) (Pk g (some (.int (nI q.2.2.length))) ws) := by
  refine Met.ofW (cc := cJ0_length_8abf5) (maxL := 1) (ret := (some .int)) (by decide) rfl ?_
  intro p e s m args below meth c s₁ B hml hv
  obtain ⟨rfl, hE, hLo, hZb, hZs, hP, hX⟩ := hv
  have hr : meth.sig.returnType = (some .int) := B.returns
  have C : Cx l g p s m meth c cJ0_length_8abf5 1 RJ0 := ⟨B.exec, B.bytes, hml, findClass_of_methodNamed B.named, hE, hLo, B.notSynchronized⟩
  have S : SJ g Z s (ws) (xs) s.heap [] := ⟨hP, va_S.rf, hZb, hZs, hX⟩
  have hx := C.1
  have hb := C.2.1
  have hl := lv_entry ([.ref q.1]) (n := 1) (Nat.le_of_ble_eq_true rfl)
  rw [lg_entry_eq]
  generalize (lg_sl ([.ref q.1]) ++ List.replicate (1 - (lg_sl ([.ref q.1])).length) Slot.unset).toArray = ls at hl ⊢
  have hl : lv_has ls 1 [(0, .ref q.1)] := hl
  generalize hH : s.heap = H at S ⊢
  generalize hlc : ([] : List Loc) = locs at S ⊢
  refine lv_aload_n hx hb dJ0_length_8abf5_0 rfl (lv_at hl 0 rfl) ?_
  refine z_svalue C S hq jf_RJ0_9 dJ0_length_8abf5_1 ?_
  refine z_slen C S hq dJ0_length_8abf5_4 ?_
  refine lv_aload_n hx hb dJ0_length_8abf5_5 rfl (lv_at hl 0 rfl) ?_
  refine z_callV (Cn := RJ0) C S (Nat.le_refl Z) S.zh S.1 (fun q hq => hq) (z_srecv S hq) (k_coder hq) ⟨jc_J0_coder_7d493, jn_RJ0, jl_RJ0_335, ji_J0_coder_7d493⟩ (C.2.2.2.2.1.w js_RJ0_J0_coder_7d493) ⟨by decide, by decide⟩ rfl (rm_ok (by decide) (by decide)) hl.1 rfl (Nat.le_of_ble_eq_true rfl) ⟨Nat.le_of_ble_eq_true rfl, Nat.le_of_ble_eq_true rfl⟩ dJ0_length_8abf5_6 (fun v H1 locs1 hp hz hk hS => ?_)
  obtain ⟨rfl, hP⟩ := hp
  have S : SJ g Z s (ws) (xs) H1 locs1 := S.old hS hP
  refine lv_ishr hx hb dJ0_length_8abf5_9 ?_
  refine lv_topi (fun y9 hy9 => ?_)
  obtain rfl : y9 = nI q.2.2.length := hy9.trans (sb_shr0 _)
  exact z_iret C S.2.1 hr rfl ⟨rfl, S.1⟩ dJ0_length_8abf5_10
set_option maxHeartbeats 1000000 in
set_option maxRecDepth 100000 in
theorem k_sLatin1 {l : Launch} {g : GL} {Z : Nat} {q : Txt3} {ws : va_W} {xs : List Txt3} (hq : q ∈ xs) : Cj l g 1 yJ0_isLatin1_aae02 cJ0_isLatin1_aae02 1 (some .boolean) 0 0 Z [.ref q.1] (ws) (xs) (Pk g (some (.int 1)) ws) := by
  refine Met.ofW (cc := cJ0_isLatin1_aae02) (maxL := 1) (ret := (some .boolean)) (by decide) rfl ?_
  intro p e s m args below meth c s₁ B hml hv
  obtain ⟨rfl, hE, hLo, hZb, hZs, hP, hX⟩ := hv
  have hr : meth.sig.returnType = (some .boolean) := B.returns
  have C : Cx l g p s m meth c cJ0_isLatin1_aae02 1 RJ0 := ⟨B.exec, B.bytes, hml, findClass_of_methodNamed B.named, hE, hLo, B.notSynchronized⟩
  have S : SJ g Z s (ws) (xs) s.heap [] := ⟨hP, va_S.rf, hZb, hZs, hX⟩
  have hx := C.1
  have hb := C.2.1
  have hl := lv_entry ([.ref q.1]) (n := 1) (Nat.le_of_ble_eq_true rfl)
  rw [lg_entry_eq]
  generalize (lg_sl ([.ref q.1]) ++ List.replicate (1 - (lg_sl ([.ref q.1])).length) Slot.unset).toArray = ls at hl ⊢
  have hl : lv_has ls 1 [(0, .ref q.1)] := hl
  generalize hH : s.heap = H at S ⊢
  generalize hlc : ([] : List Loc) = locs at S ⊢
  refine z_compact C S jf_RJ0_38 dJ0_isLatin1_aae02_0 ?_
  refine lv_if_eq (tgt := 17) hx hb dJ0_isLatin1_aae02_3 (by decide) (fun c => absurd c (by decide)) (fun _ => ?_)
  refine lv_aload_n hx hb dJ0_isLatin1_aae02_6 rfl (lv_at hl 0 rfl) ?_
  refine z_scoder C S hq jf_RJ0_15 dJ0_isLatin1_aae02_7 ?_
  refine lv_if_ne (tgt := 17) hx hb dJ0_isLatin1_aae02_10 (by decide) (fun c => absurd rfl c) (fun _ => ?_)
  refine lv_iconst (v := (1 : Int32)) hx hb dJ0_isLatin1_aae02_13 (by decide) ?_
  refine lv_goto (tgt := 18) hx hb dJ0_isLatin1_aae02_14 (by decide) ?_
  exact z_iret C S.2.1 hr rfl ⟨rfl, S.1⟩ dJ0_isLatin1_aae02_18
set_option maxHeartbeats 1000000 in
set_option maxRecDepth 100000 in
theorem k_pcheckN {l : Launch} {g : GL} {Z : Nat} {i n : Nat} {ws : va_W} {xs : List Txt3} (h1 : i < n) (hn : n < 2 ^ 31) : Cj l g 1 yJ3_checkIndex_8e157 cJ3_checkIndex_8e157 3 (some .int) 0 0 Z [.int (nI i), .int (nI n), .null] (ws) (xs) (Pk g (some (.int (nI i))) ws) := by
  refine Met.ofW (cc := cJ3_checkIndex_8e157) (maxL := 3) (ret := (some .int)) (by decide) rfl ?_
  intro p e s m args below meth c s₁ B hml hv
  obtain ⟨rfl, hE, hLo, hZb, hZs, hP, hX⟩ := hv
  have hr : meth.sig.returnType = (some .int) := B.returns
  have C : Cx l g p s m meth c cJ3_checkIndex_8e157 3 RJ3 := ⟨B.exec, B.bytes, hml, findClass_of_methodNamed B.named, hE, hLo, B.notSynchronized⟩
  have S : SJ g Z s (ws) (xs) s.heap [] := ⟨hP, va_S.rf, hZb, hZs, hX⟩
  have hx := C.1
  have hb := C.2.1
  have hl := lv_entry ([.int (nI i), .int (nI n), .null]) (n := 3) (Nat.le_of_ble_eq_true rfl)
  rw [lg_entry_eq]
  generalize (lg_sl ([.int (nI i), .int (nI n), .null]) ++ List.replicate (3 - (lg_sl ([.int (nI i), .int (nI n), .null])).length) Slot.unset).toArray = ls at hl ⊢
  have hl : lv_has ls 3 [(0, .int (nI i)), (1, .int (nI n)), (2, .null)] := hl
  generalize hH : s.heap = H at S ⊢
  generalize hlc : ([] : List Loc) = locs at S ⊢
  refine lv_iload_n hx hb dJ3_checkIndex_8e157_0 rfl (lv_at hl 0 rfl) ?_
  refine lv_if_lt (tgt := 9) hx hb dJ3_checkIndex_8e157_1 (by decide) (fun c => absurd c (nI_pos (by omega))) (fun _ => ?_)
  refine lv_iload_n hx hb dJ3_checkIndex_8e157_4 rfl (lv_at hl 0 rfl) ?_
  refine lv_iload_n hx hb dJ3_checkIndex_8e157_5 rfl (lv_at hl 1 rfl) ?_
  refine lv_icmp_lt (tgt := 16) hx hb dJ3_checkIndex_8e157_6 (by decide) (fun _ => ?_) (fun c => absurd (nI_lt h1 hn) c)
  refine lv_iload_n hx hb dJ3_checkIndex_8e157_16 rfl (lv_at hl 0 rfl) ?_
  exact z_iret C S.2.1 hr rfl ⟨rfl, S.1⟩ dJ3_checkIndex_8e157_17
set_option maxHeartbeats 1000000 in
set_option maxRecDepth 100000 in
theorem k_pcheckR {l : Launch} {g : GL} {Z : Nat} {i n : Nat} {q9 : Nat} {ws : va_W} {xs : List Txt3} (h1 : i < n) (hn : n < 2 ^ 31) : Cj l g 1 yJ3_checkIndex_8e157 cJ3_checkIndex_8e157 3 (some .int) 0 0 Z [.int (nI i), .int (nI n), .ref q9] (ws) (xs) (Pk g (some (.int (nI i))) ws) := by
  refine Met.ofW (cc := cJ3_checkIndex_8e157) (maxL := 3) (ret := (some .int)) (by decide) rfl ?_
  intro p e s m args below meth c s₁ B hml hv
  obtain ⟨rfl, hE, hLo, hZb, hZs, hP, hX⟩ := hv
  have hr : meth.sig.returnType = (some .int) := B.returns
  have C : Cx l g p s m meth c cJ3_checkIndex_8e157 3 RJ3 := ⟨B.exec, B.bytes, hml, findClass_of_methodNamed B.named, hE, hLo, B.notSynchronized⟩
  have S : SJ g Z s (ws) (xs) s.heap [] := ⟨hP, va_S.rf, hZb, hZs, hX⟩
  have hx := C.1
  have hb := C.2.1
  have hl := lv_entry ([.int (nI i), .int (nI n), .ref q9]) (n := 3) (Nat.le_of_ble_eq_true rfl)
  rw [lg_entry_eq]
  generalize (lg_sl ([.int (nI i), .int (nI n), .ref q9]) ++ List.replicate (3 - (lg_sl ([.int (nI i), .int (nI n), .ref q9])).length) Slot.unset).toArray = ls at hl ⊢
  have hl : lv_has ls 3 [(0, .int (nI i)), (1, .int (nI n)), (2, .ref q9)] := hl
  generalize hH : s.heap = H at S ⊢
  generalize hlc : ([] : List Loc) = locs at S ⊢
  refine lv_iload_n hx hb dJ3_checkIndex_8e157_0 rfl (lv_at hl 0 rfl) ?_
  refine lv_if_lt (tgt := 9) hx hb dJ3_checkIndex_8e157_1 (by decide) (fun c => absurd c (nI_pos (by omega))) (fun _ => ?_)
  refine lv_iload_n hx hb dJ3_checkIndex_8e157_4 rfl (lv_at hl 0 rfl) ?_
  refine lv_iload_n hx hb dJ3_checkIndex_8e157_5 rfl (lv_at hl 1 rfl) ?_
  refine lv_icmp_lt (tgt := 16) hx hb dJ3_checkIndex_8e157_6 (by decide) (fun _ => ?_) (fun c => absurd (nI_lt h1 hn) c)
  refine lv_iload_n hx hb dJ3_checkIndex_8e157_16 rfl (lv_at hl 0 rfl) ?_
  exact z_iret C S.2.1 hr rfl ⟨rfl, S.1⟩ dJ3_checkIndex_8e157_17
set_option maxHeartbeats 1000000 in
set_option maxRecDepth 100000 in
theorem k_scheck {l : Launch} {g : GL} {Z : Nat} {i n : Nat} {ws : va_W} {xs : List Txt3} (h1 : i < n) (hn : n < 2 ^ 31) : Cj l g 2 yJ0_checkIndex_df160 cJ0_checkIndex_df160 2 none 0 0 Z [.int (nI i), .int (nI n)] (ws) (xs) (Pk g none ws) := by
  refine Met.ofW (cc := cJ0_checkIndex_df160) (maxL := 2) (ret := none) (by decide) rfl ?_
  intro p e s m args below meth c s₁ B hml hv
  obtain ⟨rfl, hE, hLo, hZb, hZs, hP, hX⟩ := hv
  have hr : meth.sig.returnType = none := B.returns
  have C : Cx l g p s m meth c cJ0_checkIndex_df160 2 RJ0 := ⟨B.exec, B.bytes, hml, findClass_of_methodNamed B.named, hE, hLo, B.notSynchronized⟩
  have S : SJ g Z s (ws) (xs) s.heap [] := ⟨hP, va_S.rf, hZb, hZs, hX⟩
  have hx := C.1
  have hb := C.2.1
  have hl := lv_entry ([.int (nI i), .int (nI n)]) (n := 2) (Nat.le_of_ble_eq_true rfl)
  rw [lg_entry_eq]
  generalize (lg_sl ([.int (nI i), .int (nI n)]) ++ List.replicate (2 - (lg_sl ([.int (nI i), .int (nI n)])).length) Slot.unset).toArray = ls at hl ⊢
  have hl : lv_has ls 2 [(0, .int (nI i)), (1, .int (nI n))] := hl
  generalize hH : s.heap = H at S ⊢
  generalize hlc : ([] : List Loc) = locs at S ⊢
  refine lv_iload_n hx hb dJ0_checkIndex_df160_0 rfl (lv_at hl 0 rfl) ?_
  refine lv_iload_n hx hb dJ0_checkIndex_df160_1 rfl (lv_at hl 1 rfl) ?_
  refine z_form C S jf_RJ0_1053 dJ0_checkIndex_df160_2 ?_ (fun q9 => ?_)
  · refine z_callS C S (Nat.le_refl Z) S.zh S.1 (fun q hq => hq) (k_pcheckN h1 hn) ⟨jc_J3_checkIndex_8e157, jn_RJ3, jl_RJ0_1059, jt_J3_checkIndex_8e157⟩ ⟨by decide, by decide⟩ rfl (rm_ok (by decide) (by decide)) hl.1 rfl (Nat.le_of_ble_eq_true rfl) ⟨Nat.le_of_ble_eq_true rfl, Nat.le_of_ble_eq_true rfl⟩ dJ0_checkIndex_df160_5 (fun v H1 locs1 hp hz hk hS => ?_)
    obtain ⟨rfl, hP⟩ := hp
    have S : SJ g Z s (ws) (xs) H1 locs1 := S.old hS hP
    refine lv_pop hx hb dJ0_checkIndex_df160_8 rfl ?_
    exact z_vret C S.2.1 hr ⟨rfl, S.1⟩ dJ0_checkIndex_df160_9
  · refine z_callS C S (Nat.le_refl Z) S.zh S.1 (fun q hq => hq) (k_pcheckR h1 hn) ⟨jc_J3_checkIndex_8e157, jn_RJ3, jl_RJ0_1059, jt_J3_checkIndex_8e157⟩ ⟨by decide, by decide⟩ rfl (rm_ok (by decide) (by decide)) hl.1 rfl (Nat.le_of_ble_eq_true rfl) ⟨Nat.le_of_ble_eq_true rfl, Nat.le_of_ble_eq_true rfl⟩ dJ0_checkIndex_df160_5 (fun v H1 locs1 hp hz hk hS => ?_)
    obtain ⟨rfl, hP⟩ := hp
    have S : SJ g Z s (ws) (xs) H1 locs1 := S.old hS hP
    refine lv_pop hx hb dJ0_checkIndex_df160_8 rfl ?_
    exact z_vret C S.2.1 hr ⟨rfl, S.1⟩ dJ0_checkIndex_df160_9
set_option maxHeartbeats 1000000 in
set_option maxRecDepth 100000 in
theorem k_lcharAt {l : Launch} {g : GL} {Z : Nat} {i : Nat} {q : Txt3} {ws : va_W} {xs : List Txt3} (hq : q ∈ xs) (hasc : ∀ c ∈ q.2.2, c < 128) (hn : q.2.2.length < 2 ^ 31) (hi : i < q.2.2.length) : Cj l g 3 yJ1_charAt_3b067 cJ1_charAt_3b067 2 (some .char) 0 0 Z [.ref q.2.1, .int (nI i)] (ws) (xs) (Pk g (some (.int (nI (q.2.2.getD i 0)))) ws) := by
  refine Met.ofW (cc := cJ1_charAt_3b067) (maxL := 2) (ret := (some .char)) (by decide) rfl ?_
  intro p e s m args below meth c s₁ B hml hv
  obtain ⟨rfl, hE, hLo, hZb, hZs, hP, hX⟩ := hv
  have hr : meth.sig.returnType = (some .char) := B.returns
  have C : Cx l g p s m meth c cJ1_charAt_3b067 2 RJ1 := ⟨B.exec, B.bytes, hml, findClass_of_methodNamed B.named, hE, hLo, B.notSynchronized⟩
  have S : SJ g Z s (ws) (xs) s.heap [] := ⟨hP, va_S.rf, hZb, hZs, hX⟩
  have hx := C.1
  have hb := C.2.1
  have hl := lv_entry ([.ref q.2.1, .int (nI i)]) (n := 2) (Nat.le_of_ble_eq_true rfl)
  rw [lg_entry_eq]
  generalize (lg_sl ([.ref q.2.1, .int (nI i)]) ++ List.replicate (2 - (lg_sl ([.ref q.2.1, .int (nI i)])).length) Slot.unset).toArray = ls at hl ⊢
  have hl : lv_has ls 2 [(0, .ref q.2.1), (1, .int (nI i))] := hl
  generalize hH : s.heap = H at S ⊢
  generalize hlc : ([] : List Loc) = locs at S ⊢
  have h128 : q.2.2.getD i 0 < 128 := by rw [List.getD_eq_getElem?_getD, List.getElem?_eq_getElem hi]; exact hasc _ (List.getElem_mem hi)
  refine lv_iload_n hx hb dJ1_charAt_3b067_0 rfl (lv_at hl 1 rfl) ?_
  refine lv_aload_n hx hb dJ1_charAt_3b067_1 rfl (lv_at hl 0 rfl) ?_
  refine z_slen C S hq dJ1_charAt_3b067_2 ?_
  refine z_callS C S (Nat.le_refl Z) S.zh S.1 (fun q hq => hq) (k_scheck hi hn) ⟨jc_J0_checkIndex_df160, jn_RJ0, jl_RJ1_9, jt_J0_checkIndex_df160⟩ ⟨by decide, by decide⟩ rfl (rm_ok (by decide) (by decide)) hl.1 rfl (Nat.le_of_ble_eq_true rfl) ⟨Nat.le_of_ble_eq_true rfl, Nat.le_of_ble_eq_true rfl⟩ dJ1_charAt_3b067_3 (fun v H1 locs1 hp hz hk hS => ?_)
  obtain ⟨rfl, hP⟩ := hp
  have S : SJ g Z s (ws) (xs) H1 locs1 := S.old hS hP
  refine lv_aload_n hx hb dJ1_charAt_3b067_6 rfl (lv_at hl 0 rfl) ?_
  refine lv_iload_n hx hb dJ1_charAt_3b067_7 rfl (lv_at hl 1 rfl) ?_
  refine z_sat C S hq hn hi dJ1_charAt_3b067_8 ?_
  refine lv_sipush (v := (255 : Int32)) hx hb dJ1_charAt_3b067_9 (by decide) ?_
  refine lv_iand hx hb dJ1_charAt_3b067_12 ?_
  refine lv_topi (fun y9 hy9 => ?_)
  obtain rfl : y9 = nI (q.2.2.getD i 0) := hy9.trans (asc_and h128)
  refine lv_i2c (v := nI (q.2.2.getD i 0)) hx hb dJ1_charAt_3b067_13 (asc_ch h128) ?_
  exact z_iret C S.2.1 hr (asc_nc h128) ⟨rfl, S.1⟩ dJ1_charAt_3b067_14
set_option maxHeartbeats 1000000 in
set_option maxRecDepth 100000 in
theorem k_charAt {l : Launch} {g : GL} {Z : Nat} {i : Nat} {q : Txt3} {ws : va_W} {xs : List Txt3} (hq : q ∈ xs) (hasc : ∀ c ∈ q.2.2, c < 128) (hn : q.2.2.length < 2 ^ 31) (hi : i < q.2.2.length) : Cj l g 4 yJ0_charAt_5068e cJ0_charAt_5068e 2 (some .char) 0 0 Z [.ref q.1, .int (nI i)] (ws) (xs) (Pk g (some (.int (nI (q.2.2.getD i 0)))) ws) := by
  refine Met.ofW (cc := cJ0_charAt_5068e) (maxL := 2) (ret := (some .char)) (by decide) rfl ?_
  intro p e s m args below meth c s₁ B hml hv
  obtain ⟨rfl, hE, hLo, hZb, hZs, hP, hX⟩ := hv
  have hr : meth.sig.returnType = (some .char) := B.returns
  have C : Cx l g p s m meth c cJ0_charAt_5068e 2 RJ0 := ⟨B.exec, B.bytes, hml, findClass_of_methodNamed B.named, hE, hLo, B.notSynchronized⟩
  have S : SJ g Z s (ws) (xs) s.heap [] := ⟨hP, va_S.rf, hZb, hZs, hX⟩
  have hx := C.1
  have hb := C.2.1
  have hl := lv_entry ([.ref q.1, .int (nI i)]) (n := 2) (Nat.le_of_ble_eq_true rfl)
  rw [lg_entry_eq]
  generalize (lg_sl ([.ref q.1, .int (nI i)]) ++ List.replicate (2 - (lg_sl ([.ref q.1, .int (nI i)])).length) Slot.unset).toArray = ls at hl ⊢
  have hl : lv_has ls 2 [(0, .ref q.1), (1, .int (nI i))] := hl
  generalize hH : s.heap = H at S ⊢
  generalize hlc : ([] : List Loc) = locs at S ⊢
  have h128 : q.2.2.getD i 0 < 128 := by rw [List.getD_eq_getElem?_getD, List.getElem?_eq_getElem hi]; exact hasc _ (List.getElem_mem hi)
  refine lv_aload_n hx hb dJ0_charAt_5068e_0 rfl (lv_at hl 0 rfl) ?_
  refine z_callV (Cn := RJ0) C S (Nat.le_refl Z) S.zh S.1 (fun q hq => hq) (z_srecv S hq) (k_sLatin1 hq) ⟨jc_J0_isLatin1_aae02, jn_RJ0, jl_RJ0_492, ji_J0_isLatin1_aae02⟩ (C.2.2.2.2.1.w js_RJ0_J0_isLatin1_aae02) ⟨by decide, by decide⟩ rfl (rm_ok (by decide) (by decide)) hl.1 rfl (Nat.le_of_ble_eq_true rfl) ⟨Nat.le_of_ble_eq_true rfl, Nat.le_of_ble_eq_true rfl⟩ dJ0_charAt_5068e_1 (fun v H1 locs1 hp hz hk hS => ?_)
  obtain ⟨rfl, hP⟩ := hp
  have S : SJ g Z s (ws) (xs) H1 locs1 := S.old hS hP
  refine lv_if_eq (tgt := 16) hx hb dJ0_charAt_5068e_4 (by decide) (fun c => absurd c (by decide)) (fun _ => ?_)
  refine lv_aload_n hx hb dJ0_charAt_5068e_7 rfl (lv_at hl 0 rfl) ?_
  refine z_svalue C S hq jf_RJ0_9 dJ0_charAt_5068e_8 ?_
  refine lv_iload_n hx hb dJ0_charAt_5068e_11 rfl (lv_at hl 1 rfl) ?_
  refine z_callS C S (Nat.le_refl Z) S.zh S.1 (fun q hq => hq) (k_lcharAt hq hasc hn hi) ⟨jc_J1_charAt_3b067, jn_RJ1, jl_RJ0_495, jt_J1_charAt_3b067⟩ ⟨by decide, by decide⟩ rfl (rm_ok (by decide) (by decide)) hl.1 rfl (Nat.le_of_ble_eq_true rfl) ⟨Nat.le_of_ble_eq_true rfl, Nat.le_of_ble_eq_true rfl⟩ dJ0_charAt_5068e_12 (fun v H1 locs1 hp hz hk hS => ?_)
  obtain ⟨rfl, hP⟩ := hp
  have S : SJ g Z s (ws) (xs) H1 locs1 := S.old hS hP
  exact z_iret C S.2.1 hr (asc_nc h128) ⟨rfl, S.1⟩ dJ0_charAt_5068e_15
set_option maxHeartbeats 1000000 in
set_option maxRecDepth 100000 in
theorem k_inflIf {l : Launch} {g : GL} {Z : Nat} {b w n mm : Nat} {f : Nat → Int32} {q : Txt3} {xs : List Txt3} (hq : q ∈ xs) : Cj l g 2 yJ5_inflateIfNeededFor_a7421 cJ5_inflateIfNeededFor_a7421 2 none 0 0 Z [.ref b, .ref q.1] (sb2 g b w n mm f []) (xs) (Pk g none (sb2 g b w n mm f [])) := by
  refine Met.ofW (cc := cJ5_inflateIfNeededFor_a7421) (maxL := 2) (ret := none) (by decide) rfl ?_
  intro p e s m args below meth c s₁ B hml hv
  obtain ⟨rfl, hE, hLo, hZb, hZs, hP, hX⟩ := hv
  have hr : meth.sig.returnType = none := B.returns
  have C : Cx l g p s m meth c cJ5_inflateIfNeededFor_a7421 2 RJ5 := ⟨B.exec, B.bytes, hml, findClass_of_methodNamed B.named, hE, hLo, B.notSynchronized⟩
  have S : SJ g Z s (sb2 g b w n mm f []) (xs) s.heap [] := ⟨hP, va_S.rf, hZb, hZs, hX⟩
  have hx := C.1
  have hb := C.2.1
  have hl := lv_entry ([.ref b, .ref q.1]) (n := 2) (Nat.le_of_ble_eq_true rfl)
  rw [lg_entry_eq]
  generalize (lg_sl ([.ref b, .ref q.1]) ++ List.replicate (2 - (lg_sl ([.ref b, .ref q.1])).length) Slot.unset).toArray = ls at hl ⊢
  have hl : lv_has ls 2 [(0, .ref b), (1, .ref q.1)] := hl
  generalize hH : s.heap = H at S ⊢
  generalize hlc : ([] : List Loc) = locs at S ⊢
  refine z_compact C S jf_RJ5_18 dJ5_inflateIfNeededFor_a7421_0 ?_
  refine lv_if_eq (tgt := 21) hx hb dJ5_inflateIfNeededFor_a7421_3 (by decide) (fun c => absurd c (by decide)) (fun _ => ?_)
  refine lv_aload_n hx hb dJ5_inflateIfNeededFor_a7421_6 rfl (lv_at hl 0 rfl) ?_
  refine z_get C S inBJ4 (ci := 15) rfl 0 rfl 1 (by decide) rfl rfl jf_RJ5_22 dJ5_inflateIfNeededFor_a7421_7 ?_
  refine lv_aload_n hx hb dJ5_inflateIfNeededFor_a7421_10 rfl (lv_at hl 1 rfl) ?_
  refine z_callV (Cn := RJ0) C S (Nat.le_refl Z) S.zh S.1 (fun q hq => hq) (z_srecv S hq) (k_coder hq) ⟨jc_J0_coder_7d493, jn_RJ0, jl_RJ5_40, ji_J0_coder_7d493⟩ (C.2.2.2.2.1.w js_RJ0_J0_coder_7d493) ⟨by decide, by decide⟩ rfl (rm_ok (by decide) (by decide)) hl.1 rfl (Nat.le_of_ble_eq_true rfl) ⟨Nat.le_of_ble_eq_true rfl, Nat.le_of_ble_eq_true rfl⟩ dJ5_inflateIfNeededFor_a7421_11 (fun v H1 locs1 hp hz hk hS => ?_)
  obtain ⟨rfl, hP⟩ := hp
  have S : SJ g Z s (sb2 g b w n mm f []) (xs) H1 locs1 := S.old hS hP
  refine lv_icmp_eq (tgt := 21) hx hb dJ5_inflateIfNeededFor_a7421_14 (by decide) (fun _ => ?_) (fun c => absurd rfl c)
  exact z_vret C S.2.1 hr ⟨rfl, S.1⟩ dJ5_inflateIfNeededFor_a7421_21
set_option maxHeartbeats 1000000 in
set_option maxRecDepth 100000 in
theorem k_getBytes {l : Launch} {g : GL} {Z : Nat} {b w n mm : Nat} {f : Nat → Int32} {q : Txt3} {xs : List Txt3} (hq : q ∈ xs) (hasc : ∀ c ∈ q.2.2, c < 128) (hm : mm < 2 ^ 31) (hle : n + q.2.2.length ≤ mm) (hD : va_D (zA Z) (sb2 g b w n mm f [])) : Cj l g 2 yJ0_getBytes_840e7 cJ0_getBytes_840e7 4 none 0 0 Z [.ref q.1, .ref w, .int (nI n), .int 0] (sb2 g b w n mm f []) (xs) (fun v H => v = none ∧ va_P (gD g) vwCl (sb2 g b w n mm (va_cpy (fun j => nI (q.2.2.getD j 0)) f 0 n q.2.2.length) []) H ∧ va_D (zA Z) (sb2 g b w n mm (va_cpy (fun j => nI (q.2.2.getD j 0)) f 0 n q.2.2.length) [])) := by
  refine Met.ofW (cc := cJ0_getBytes_840e7) (maxL := 4) (ret := none) (by decide) rfl ?_
  intro p e s m args below meth c s₁ B hml hv
  obtain ⟨rfl, hE, hLo, hZb, hZs, hP, hX⟩ := hv
  have hr : meth.sig.returnType = none := B.returns
  have C : Cx l g p s m meth c cJ0_getBytes_840e7 4 RJ0 := ⟨B.exec, B.bytes, hml, findClass_of_methodNamed B.named, hE, hLo, B.notSynchronized⟩
  have S : SJ g Z s (sb2 g b w n mm f []) (xs) s.heap [] := ⟨hP, va_S.rf, hZb, hZs, hX⟩
  have hx := C.1
  have hb := C.2.1
  have hl := lv_entry ([.ref q.1, .ref w, .int (nI n), .int 0]) (n := 4) (Nat.le_of_ble_eq_true rfl)
  rw [lg_entry_eq]
  generalize (lg_sl ([.ref q.1, .ref w, .int (nI n), .int 0]) ++ List.replicate (4 - (lg_sl ([.ref q.1, .ref w, .int (nI n), .int 0])).length) Slot.unset).toArray = ls at hl ⊢
  have hl : lv_has ls 4 [(0, .ref q.1), (1, .ref w), (2, .int (nI n)), (3, .int 0)] := hl
  generalize hH : s.heap = H at S ⊢
  generalize hlc : ([] : List Loc) = locs at S ⊢
  refine lv_aload_n hx hb dJ0_getBytes_840e7_0 rfl (lv_at hl 0 rfl) ?_
  refine z_callV (Cn := RJ0) C S (Nat.le_refl Z) S.zh S.1 (fun q hq => hq) (z_srecv S hq) (k_coder hq) ⟨jc_J0_coder_7d493, jn_RJ0, jl_RJ0_335, ji_J0_coder_7d493⟩ (C.2.2.2.2.1.w js_RJ0_J0_coder_7d493) ⟨by decide, by decide⟩ rfl (rm_ok (by decide) (by decide)) hl.1 rfl (Nat.le_of_ble_eq_true rfl) ⟨Nat.le_of_ble_eq_true rfl, Nat.le_of_ble_eq_true rfl⟩ dJ0_getBytes_840e7_1 (fun v H1 locs1 hp hz hk hS => ?_)
  obtain ⟨rfl, hP⟩ := hp
  have S : SJ g Z s (sb2 g b w n mm f []) (xs) H1 locs1 := S.old hS hP
  refine lv_iload_n hx hb dJ0_getBytes_840e7_4 rfl (lv_at hl 3 rfl) ?_
  refine lv_icmp_ne (tgt := 28) hx hb dJ0_getBytes_840e7_5 (by decide) (fun c => absurd rfl c) (fun _ => ?_)
  refine lv_aload_n hx hb dJ0_getBytes_840e7_8 rfl (lv_at hl 0 rfl) ?_
  refine z_svalue C S hq jf_RJ0_9 dJ0_getBytes_840e7_9 ?_
  refine lv_iconst (v := nI 0) hx hb dJ0_getBytes_840e7_12 (by decide) ?_
  refine lv_aload_n hx hb dJ0_getBytes_840e7_13 rfl (lv_at hl 1 rfl) ?_
  refine lv_iload_n hx hb dJ0_getBytes_840e7_14 rfl (lv_at hl 2 rfl) ?_
  refine lv_iload_n hx hb dJ0_getBytes_840e7_15 rfl (lv_at hl 3 rfl) ?_
  refine lv_ishl hx hb dJ0_getBytes_840e7_16 ?_
  refine lv_topi (fun y9 hy9 => ?_)
  obtain rfl : y9 = nI n := hy9.trans (sb_shl0 _)
  refine lv_aload_n hx hb dJ0_getBytes_840e7_17 rfl (lv_at hl 0 rfl) ?_
  refine z_svalue C S hq jf_RJ0_9 dJ0_getBytes_840e7_18 ?_
  refine z_slen C S hq dJ0_getBytes_840e7_21 ?_
  refine z_copyT C hl.1 S hD ⟨jl_RJ0_212, jw_nat, jw_st, jn_sys⟩ hq hasc 1 rfl hm hle (by decide) (Nat.le_of_ble_eq_true rfl) dJ0_getBytes_840e7_22 (fun H1 locs1 S hD => ?_)
  refine lv_goto (tgt := 43) hx hb dJ0_getBytes_840e7_25 (by decide) ?_
  exact z_vret C S.2.1 hr ⟨rfl, S.1, hD⟩ dJ0_getBytes_840e7_43
set_option maxHeartbeats 1000000 in
set_option maxRecDepth 100000 in
theorem k_putStr {l : Launch} {g : GL} {Z : Nat} {b w n mm : Nat} {f : Nat → Int32} {q : Txt3} {xs : List Txt3} (hq : q ∈ xs) (hasc : ∀ c ∈ q.2.2, c < 128) (hm : mm < 2 ^ 31) (hle : n + q.2.2.length ≤ mm) (hD : va_D (zA Z) (sb2 g b w n mm f [])) : Cj l g 3 yJ5_putStringAt_47b60 cJ5_putStringAt_47b60 3 none 0 0 Z [.ref b, .int (nI n), .ref q.1] (sb2 g b w n mm f []) (xs) (fun v H => v = none ∧ va_P (gD g) vwCl (sb2 g b w n mm (va_cpy (fun j => nI (q.2.2.getD j 0)) f 0 n q.2.2.length) []) H ∧ va_D (zA Z) (sb2 g b w n mm (va_cpy (fun j => nI (q.2.2.getD j 0)) f 0 n q.2.2.length) [])) := by
  refine Met.ofW (cc := cJ5_putStringAt_47b60) (maxL := 3) (ret := none) (by decide) rfl ?_
  intro p e s m args below meth c s₁ B hml hv
  obtain ⟨rfl, hE, hLo, hZb, hZs, hP, hX⟩ := hv
  have hr : meth.sig.returnType = none := B.returns
  have C : Cx l g p s m meth c cJ5_putStringAt_47b60 3 RJ5 := ⟨B.exec, B.bytes, hml, findClass_of_methodNamed B.named, hE, hLo, B.notSynchronized⟩
  have S : SJ g Z s (sb2 g b w n mm f []) (xs) s.heap [] := ⟨hP, va_S.rf, hZb, hZs, hX⟩
  have hx := C.1
  have hb := C.2.1
  have hl := lv_entry ([.ref b, .int (nI n), .ref q.1]) (n := 3) (Nat.le_of_ble_eq_true rfl)
  rw [lg_entry_eq]
  generalize (lg_sl ([.ref b, .int (nI n), .ref q.1]) ++ List.replicate (3 - (lg_sl ([.ref b, .int (nI n), .ref q.1])).length) Slot.unset).toArray = ls at hl ⊢
  have hl : lv_has ls 3 [(0, .ref b), (1, .int (nI n)), (2, .ref q.1)] := hl
  generalize hH : s.heap = H at S ⊢
  generalize hlc : ([] : List Loc) = locs at S ⊢
  refine lv_aload_n hx hb dJ5_putStringAt_47b60_0 rfl (lv_at hl 0 rfl) ?_
  refine lv_aload_n hx hb dJ5_putStringAt_47b60_1 rfl (lv_at hl 2 rfl) ?_
  refine z_callV (Cn := RJ4) C S (Nat.le_refl Z) S.zh S.1 (fun q hq => hq) (z_recv C S 0 rfl (T := TJ4) (N := 4) rfl) (k_inflIf hq) ⟨jc_J5_inflateIfNeededFor_a7421, jn_RJ5, jl_RJ5_397, ji_J5_inflateIfNeededFor_a7421⟩ (sel_priv rfl (C.2.2.2.2.1.w js_RJ4_J5_isLatin1_aae02) (C.2.2.2.2.1.w jp_J5_inflateIfNeededFor_a7421) (C.2.2.2.2.1.w ji_J5_inflateIfNeededFor_a7421)) ⟨by decide, by decide⟩ rfl (rm_ok (by decide) (by decide)) hl.1 rfl (Nat.le_of_ble_eq_true rfl) ⟨Nat.le_of_ble_eq_true rfl, Nat.le_of_ble_eq_true rfl⟩ dJ5_putStringAt_47b60_2 (fun v H1 locs1 hp hz hk hS => ?_)
  obtain ⟨rfl, hP⟩ := hp
  have S : SJ g Z s (sb2 g b w n mm f []) (xs) H1 locs1 := S.old hS hP
  refine lv_aload_n hx hb dJ5_putStringAt_47b60_5 rfl (lv_at hl 2 rfl) ?_
  refine lv_aload_n hx hb dJ5_putStringAt_47b60_6 rfl (lv_at hl 0 rfl) ?_
  refine z_get C S inBJ4 (ci := 15) rfl 0 rfl 0 (by decide) rfl rfl jf_RJ5_15 dJ5_putStringAt_47b60_7 ?_
  refine lv_iload_n hx hb dJ5_putStringAt_47b60_10 rfl (lv_at hl 1 rfl) ?_
  refine lv_aload_n hx hb dJ5_putStringAt_47b60_11 rfl (lv_at hl 0 rfl) ?_
  refine z_get C S inBJ4 (ci := 15) rfl 0 rfl 1 (by decide) rfl rfl jf_RJ5_22 dJ5_putStringAt_47b60_12 ?_
  refine z_callV (Cn := RJ0) C S (Nat.le_refl Z) S.zh S.1 (fun q hq => hq) (z_srecv S hq) (k_getBytes hq hasc hm hle hD) ⟨jc_J0_getBytes_840e7, jn_RJ0, jl_RJ5_399, ji_J0_getBytes_840e7⟩ (C.2.2.2.2.1.w js_RJ0_J0_getBytes_840e7) ⟨by decide, by decide⟩ rfl (rm_ok (by decide) (by decide)) hl.1 rfl (Nat.le_of_ble_eq_true rfl) ⟨Nat.le_of_ble_eq_true rfl, Nat.le_of_ble_eq_true rfl⟩ dJ5_putStringAt_47b60_15 (fun v H1 locs1 hp hz hk hS => ?_)
  obtain ⟨rfl, hP, hD⟩ := hp
  have S : SJ g Z s _ (xs) H1 locs1 := S.old hS hP
  exact z_vret C S.2.1 hr ⟨rfl, S.1, hD⟩ dJ5_putStringAt_47b60_18
set_option maxHeartbeats 1000000 in
set_option maxRecDepth 100000 in
theorem k_appStr5 {l : Launch} {g : GL} {Z : Nat} {b w mm : Nat} {u : List Nat} {f : Nat → Int32} {q : Txt3} {xs : List Txt3} (hq : q ∈ xs) (hasc : ∀ c ∈ q.2.2, c < 128) (h5 : u.length + q.2.2.length ≤ 500) (hum : u.length ≤ mm) (hm : mm ≤ 1010) (hf : sb_Fit f) (hu : ∀ j, j < u.length → f j = nI (u.getD j 0)) (hD : va_D (zA Z) (sb2 g b w u.length mm f [])) : Cj l g 5 yJ5_append_cf1ce cJ5_append_cf1ce 3 (some (.object "java/lang/AbstractStringBuilder")) 1 1010 Z [.ref b, .ref q.1] (sb2 g b w u.length mm f []) (xs) (fun v H => v = some (.ref b) ∧ SBu g Z b (u ++ q.2.2) H) := by
  refine Met.ofW (cc := cJ5_append_cf1ce) (maxL := 3) (ret := (some (.object "java/lang/AbstractStringBuilder"))) (by decide) rfl ?_
  intro p e s m args below meth c s₁ B hml hv
  obtain ⟨rfl, hE, hLo, hZb, hZs, hP, hX⟩ := hv
  have hr : meth.sig.returnType = (some (.object "java/lang/AbstractStringBuilder")) := B.returns
  have C : Cx l g p s m meth c cJ5_append_cf1ce 3 RJ5 := ⟨B.exec, B.bytes, hml, findClass_of_methodNamed B.named, hE, hLo, B.notSynchronized⟩
  have S : SJ g Z s (sb2 g b w u.length mm f []) (xs) s.heap [] := ⟨hP, va_S.rf, hZb, hZs, hX⟩
  have hx := C.1
  have hb := C.2.1
  have hl := lv_entry ([.ref b, .ref q.1]) (n := 3) (Nat.le_of_ble_eq_true rfl)
  rw [lg_entry_eq]
  generalize (lg_sl ([.ref b, .ref q.1]) ++ List.replicate (3 - (lg_sl ([.ref b, .ref q.1])).length) Slot.unset).toArray = ls at hl ⊢
  have hl : lv_has ls 3 [(0, .ref b), (1, .ref q.1)] := hl
  generalize hH : s.heap = H at S ⊢
  generalize hlc : ([] : List Loc) = locs at S ⊢
  refine lv_aload_n hx hb dJ5_append_cf1ce_0 rfl (lv_at hl 1 rfl) ?_
  refine lv_ifnonnull (tgt := 9) hx hb dJ5_append_cf1ce_1 (by decide) ?_
  refine lv_aload_n hx hb dJ5_append_cf1ce_9 rfl (lv_at hl 1 rfl) ?_
  refine z_callV (Cn := RJ0) C S (Nat.le_refl Z) S.zh S.1 (fun q hq => hq) (z_srecv S hq) (k_slength hq) ⟨jc_J0_length_8abf5, jn_RJ0, jl_RJ5_32, ji_J0_length_8abf5⟩ (C.2.2.2.2.1.w js_RJ0_J0_length_8abf5) ⟨by decide, by decide⟩ rfl (rm_ok (by decide) (by decide)) hl.1 rfl (Nat.le_of_ble_eq_true rfl) ⟨Nat.le_of_ble_eq_true rfl, Nat.le_of_ble_eq_true rfl⟩ dJ5_append_cf1ce_10 (fun v H1 locs1 hp hz hk hS => ?_)
  obtain ⟨rfl, hP⟩ := hp
  have S : SJ g Z s (sb2 g b w u.length mm f []) (xs) H1 locs1 := S.old hS hP
  refine lv_istore_n (lv' := [(2, .int (nI q.2.2.length)), (0, .ref b), (1, .ref q.1)]) hx hb dJ5_append_cf1ce_13 rfl hl (by decide) rfl (fun ls hl => ?_)
  refine lv_aload_n hx hb dJ5_append_cf1ce_14 rfl (lv_at hl 1 rfl) ?_
  refine lv_aload_n hx hb dJ5_append_cf1ce_15 rfl (lv_at hl 1 rfl) ?_
  refine z_get C S inBJ4 (ci := 15) rfl 0 rfl 3 (by decide) rfl rfl jf_RJ5_79 dJ5_append_cf1ce_16 ?_
  refine lv_iload_n hx hb dJ5_append_cf1ce_19 rfl (lv_at hl 0 rfl) ?_
  refine lv_iadd hx hb dJ5_append_cf1ce_20 ?_
  refine lv_topi (fun y9 hy9 => ?_)
  obtain rfl : y9 = nI (u.length + q.2.2.length) := hy9.trans (nI_add _ _)
  refine z_callV (Cn := RJ4) C S (Nat.le_refl Z) S.zh S.1 (fun q hq => hq) (z_recv C S 0 rfl (T := TJ4) (N := 4) rfl) (k_ensure hm h5 hf hD) ⟨jc_J5_ensureCapacityInternal_d00df, jn_RJ5, jl_RJ5_100, ji_J5_ensureCapacityInternal_d00df⟩ (sel_priv rfl (C.2.2.2.2.1.w js_RJ4_J5_isLatin1_aae02) (C.2.2.2.2.1.w jp_J5_ensureCapacityInternal_d00df) (C.2.2.2.2.1.w ji_J5_ensureCapacityInternal_d00df)) ⟨by decide, by decide⟩ rfl (rm_ok (by decide) (by decide)) hl.1 rfl (Nat.le_of_ble_eq_true rfl) ⟨Nat.le_of_ble_eq_true rfl, Nat.le_of_ble_eq_true rfl⟩ dJ5_append_cf1ce_21 (fun v H1 locs1 hp hz hk hS => ?_)
  obtain ⟨rfl, w1, m1, f1, hP, hD, hq1, hm1, hf1, hk1⟩ := hp
  have S : SJ g Z s _ (xs) H1 locs1 := S.old hS hP
  refine lv_aload_n hx hb dJ5_append_cf1ce_24 rfl (lv_at hl 1 rfl) ?_
  refine lv_aload_n hx hb dJ5_append_cf1ce_25 rfl (lv_at hl 1 rfl) ?_
  refine z_get C S inBJ4 (ci := 15) rfl 0 rfl 3 (by decide) rfl rfl jf_RJ5_79 dJ5_append_cf1ce_26 ?_
  refine lv_aload_n hx hb dJ5_append_cf1ce_29 rfl (lv_at hl 2 rfl) ?_
  refine z_callV (Cn := RJ4) C S (Nat.le_refl Z) S.zh S.1 (fun q hq => hq) (z_recv C S 0 rfl (T := TJ4) (N := 4) rfl) (k_putStr hq hasc (by omega) hq1 hD) ⟨jc_J5_putStringAt_47b60, jn_RJ5, jl_RJ5_208, ji_J5_putStringAt_47b60⟩ (sel_priv rfl (C.2.2.2.2.1.w js_RJ4_J5_isLatin1_aae02) (C.2.2.2.2.1.w jp_J5_putStringAt_47b60) (C.2.2.2.2.1.w ji_J5_putStringAt_47b60)) ⟨by decide, by decide⟩ rfl (rm_ok (by decide) (by decide)) hl.1 rfl (Nat.le_of_ble_eq_true rfl) ⟨Nat.le_of_ble_eq_true rfl, Nat.le_of_ble_eq_true rfl⟩ dJ5_append_cf1ce_30 (fun v H1 locs1 hp hz hk hS => ?_)
  obtain ⟨rfl, hP, hD⟩ := hp
  have S : SJ g Z s _ (xs) H1 locs1 := S.old hS hP
  refine lv_aload_n hx hb dJ5_append_cf1ce_33 rfl (lv_at hl 1 rfl) ?_
  refine lv_dup hx hb dJ5_append_cf1ce_34 rfl ?_
  refine z_get C S inBJ4 (ci := 15) rfl 0 rfl 3 (by decide) rfl rfl jf_RJ5_79 dJ5_append_cf1ce_35 ?_
  refine lv_iload_n hx hb dJ5_append_cf1ce_38 rfl (lv_at hl 0 rfl) ?_
  refine lv_iadd hx hb dJ5_append_cf1ce_39 ?_
  refine lv_topi (fun y9 hy9 => ?_)
  obtain rfl : y9 = nI (u.length + q.2.2.length) := hy9.trans (nI_add _ _)
  refine z_put C S hD inBJ4 tyJ4_ok nmJ4 (ci := 15) rfl 0 rfl 3 (by decide) (Nat.le_of_ble_eq_true rfl) rfl rfl rfl rfl jf_RJ5_79 dJ5_append_cf1ce_40 (fun H1 locs1 S hD => ?_)
  refine lv_aload_n hx hb dJ5_append_cf1ce_43 rfl (lv_at hl 1 rfl) ?_
  refine z_aret C S.2.1 hr (Or.inl ⟨_, rfl⟩) ⟨rfl, w1, m1, va_cpy (fun j => nI (q.2.2.getD j 0)) f1 0 u.length q.2.2.length, ?_⟩ dJ5_append_cf1ce_44
  rw [List.length_append]
  refine ⟨S.1, hD, hq1, hm1, sb_fitC (asc_fit hasc) hf1, ?_⟩
  rw [← List.length_append]
  refine lt_app hu (fun j hj => ?_) (fun j hj => ?_)
  · unfold va_cpy
    rw [if_neg (by omega)]
    exact hk1 j (by omega)
  · unfold va_cpy
    rw [if_pos (by omega), Nat.add_sub_cancel_left, Nat.zero_add]
set_option maxHeartbeats 1000000 in
set_option maxRecDepth 100000 in
theorem k_appStr {l : Launch} {g : GL} {Z : Nat} {b w mm : Nat} {u : List Nat} {f : Nat → Int32} {q : Txt3} {xs : List Txt3} (hq : q ∈ xs) (hasc : ∀ c ∈ q.2.2, c < 128) (h5 : u.length + q.2.2.length ≤ 500) (hum : u.length ≤ mm) (hm : mm ≤ 1010) (hf : sb_Fit f) (hu : ∀ j, j < u.length → f j = nI (u.getD j 0)) (hD : va_D (zA Z) (sb2 g b w u.length mm f [])) : Cj l g 6 yJ4_append_15ec4 cJ4_append_15ec4 2 (some (.object "java/lang/StringBuilder")) 1 1010 Z [.ref b, .ref q.1] (sb2 g b w u.length mm f []) (xs) (fun v H => v = some (.ref b) ∧ SBu g Z b (u ++ q.2.2) H) := by
  refine Met.ofW (cc := cJ4_append_15ec4) (maxL := 2) (ret := (some (.object "java/lang/StringBuilder"))) (by decide) rfl ?_
  intro p e s m args below meth c s₁ B hml hv
  obtain ⟨rfl, hE, hLo, hZb, hZs, hP, hX⟩ := hv
  have hr : meth.sig.returnType = (some (.object "java/lang/StringBuilder")) := B.returns
  have C : Cx l g p s m meth c cJ4_append_15ec4 2 RJ4 := ⟨B.exec, B.bytes, hml, findClass_of_methodNamed B.named, hE, hLo, B.notSynchronized⟩
  have S : SJ g Z s (sb2 g b w u.length mm f []) (xs) s.heap [] := ⟨hP, va_S.rf, hZb, hZs, hX⟩
  have hx := C.1
  have hb := C.2.1
  have hl := lv_entry ([.ref b, .ref q.1]) (n := 2) (Nat.le_of_ble_eq_true rfl)
  rw [lg_entry_eq]
  generalize (lg_sl ([.ref b, .ref q.1]) ++ List.replicate (2 - (lg_sl ([.ref b, .ref q.1])).length) Slot.unset).toArray = ls at hl ⊢
  have hl : lv_has ls 2 [(0, .ref b), (1, .ref q.1)] := hl
  generalize hH : s.heap = H at S ⊢
  generalize hlc : ([] : List Loc) = locs at S ⊢
  refine lv_aload_n hx hb dJ4_append_15ec4_0 rfl (lv_at hl 0 rfl) ?_
  refine lv_aload_n hx hb dJ4_append_15ec4_1 rfl (lv_at hl 1 rfl) ?_
  refine z_callU C S (Nat.le_refl Z) S.zh S.1 (fun q hq => hq) (z_recv C S 0 rfl (T := TJ4) (N := 4) rfl) (k_appStr5 hq hasc h5 hum hm hf hu hD) ⟨jc_J5_append_cf1ce, jn_RJ5, jl_RJ4_29, ji_J5_append_cf1ce, jm_J5_append_cf1ce, jx_sup⟩ (by decide) rfl (rm_ok (by decide) (by decide)) hl.1 rfl (Nat.le_of_ble_eq_true rfl) ⟨Nat.le_of_ble_eq_true rfl, Nat.le_of_ble_eq_true rfl⟩ dJ4_append_15ec4_2 (fun v H1 locs1 hp hz hk hS => ?_)
  obtain ⟨rfl, hB⟩ := hp
  refine lv_pop hx hb dJ4_append_15ec4_5 rfl ?_
  refine lv_aload_n hx hb dJ4_append_15ec4_6 rfl (lv_at hl 0 rfl) ?_
  exact z_aret C hS hr (Or.inl ⟨_, rfl⟩) ⟨rfl, hB⟩ dJ4_append_15ec4_7
