/-! ===== String.length, String.charAt on the texts of the classes; Integer.bitCount ===== -/
theorem dJ0_length_8abf5_0 : decode cJ0_length_8abf5 0 = .ok (.aload_n 0, 1) := by decide +kernel
theorem dJ0_length_8abf5_1 : decode cJ0_length_8abf5 1 = .ok (.getfield 9, 3) := by decide +kernel
theorem dJ0_length_8abf5_4 : decode cJ0_length_8abf5 4 = .ok (.arraylength, 1) := by decide +kernel
theorem dJ0_length_8abf5_5 : decode cJ0_length_8abf5 5 = .ok (.aload_n 0, 1) := by decide +kernel
theorem dJ0_length_8abf5_6 : decode cJ0_length_8abf5 6 = .ok (.invokevirtual 335, 3) := by decide +kernel
theorem dJ0_length_8abf5_9 : decode cJ0_length_8abf5 9 = .ok (.ishr, 1) := by decide +kernel
theorem dJ0_length_8abf5_10 : decode cJ0_length_8abf5 10 = .ok (.ireturn, 1) := by decide +kernel
theorem dJ0_charAt_5068e_0 : decode cJ0_charAt_5068e 0 = .ok (.aload_n 0, 1) := by decide +kernel
theorem dJ0_charAt_5068e_1 : decode cJ0_charAt_5068e 1 = .ok (.invokevirtual 492, 3) := by decide +kernel
theorem dJ0_charAt_5068e_4 : decode cJ0_charAt_5068e 4 = .ok (.ifCond .eq 12, 3) := by decide +kernel
theorem dJ0_charAt_5068e_7 : decode cJ0_charAt_5068e 7 = .ok (.aload_n 0, 1) := by decide +kernel
theorem dJ0_charAt_5068e_8 : decode cJ0_charAt_5068e 8 = .ok (.getfield 9, 3) := by decide +kernel
theorem dJ0_charAt_5068e_11 : decode cJ0_charAt_5068e 11 = .ok (.iload_n 1, 1) := by decide +kernel
theorem dJ0_charAt_5068e_12 : decode cJ0_charAt_5068e 12 = .ok (.invokestatic 495, 3) := by decide +kernel
theorem dJ0_charAt_5068e_15 : decode cJ0_charAt_5068e 15 = .ok (.ireturn, 1) := by decide +kernel
theorem dJ0_charAt_5068e_16 : decode cJ0_charAt_5068e 16 = .ok (.aload_n 0, 1) := by decide +kernel
theorem dJ0_charAt_5068e_17 : decode cJ0_charAt_5068e 17 = .ok (.getfield 9, 3) := by decide +kernel
theorem dJ0_charAt_5068e_20 : decode cJ0_charAt_5068e 20 = .ok (.iload_n 1, 1) := by decide +kernel
theorem dJ0_charAt_5068e_21 : decode cJ0_charAt_5068e 21 = .ok (.invokestatic 498, 3) := by decide +kernel
theorem dJ0_charAt_5068e_24 : decode cJ0_charAt_5068e 24 = .ok (.ireturn, 1) := by decide +kernel
theorem dJ0_coder_7d493_0 : decode cJ0_coder_7d493 0 = .ok (.getstatic 38, 3) := by decide +kernel
theorem dJ0_coder_7d493_3 : decode cJ0_coder_7d493 3 = .ok (.ifCond .eq 10, 3) := by decide +kernel
theorem dJ0_coder_7d493_6 : decode cJ0_coder_7d493 6 = .ok (.aload_n 0, 1) := by decide +kernel
theorem dJ0_coder_7d493_7 : decode cJ0_coder_7d493 7 = .ok (.getfield 15, 3) := by decide +kernel
theorem dJ0_coder_7d493_10 : decode cJ0_coder_7d493 10 = .ok (.goto 4, 3) := by decide +kernel
theorem dJ0_coder_7d493_13 : decode cJ0_coder_7d493 13 = .ok (.iconst 1, 1) := by decide +kernel
theorem dJ0_coder_7d493_14 : decode cJ0_coder_7d493 14 = .ok (.ireturn, 1) := by decide +kernel
theorem dJ0_isLatin1_aae02_0 : decode cJ0_isLatin1_aae02 0 = .ok (.getstatic 38, 3) := by decide +kernel
theorem dJ0_isLatin1_aae02_3 : decode cJ0_isLatin1_aae02 3 = .ok (.ifCond .eq 14, 3) := by decide +kernel
theorem dJ0_isLatin1_aae02_6 : decode cJ0_isLatin1_aae02 6 = .ok (.aload_n 0, 1) := by decide +kernel
theorem dJ0_isLatin1_aae02_7 : decode cJ0_isLatin1_aae02 7 = .ok (.getfield 15, 3) := by decide +kernel
theorem dJ0_isLatin1_aae02_10 : decode cJ0_isLatin1_aae02 10 = .ok (.ifCond .ne 7, 3) := by decide +kernel
theorem dJ0_isLatin1_aae02_13 : decode cJ0_isLatin1_aae02 13 = .ok (.iconst 1, 1) := by decide +kernel
theorem dJ0_isLatin1_aae02_14 : decode cJ0_isLatin1_aae02 14 = .ok (.goto 4, 3) := by decide +kernel
theorem dJ0_isLatin1_aae02_17 : decode cJ0_isLatin1_aae02 17 = .ok (.iconst 0, 1) := by decide +kernel
theorem dJ0_isLatin1_aae02_18 : decode cJ0_isLatin1_aae02 18 = .ok (.ireturn, 1) := by decide +kernel
theorem dJ0_checkIndex_df160_0 : decode cJ0_checkIndex_df160 0 = .ok (.iload_n 0, 1) := by decide +kernel
theorem dJ0_checkIndex_df160_1 : decode cJ0_checkIndex_df160 1 = .ok (.iload_n 1, 1) := by decide +kernel
theorem dJ0_checkIndex_df160_2 : decode cJ0_checkIndex_df160 2 = .ok (.getstatic 1053, 3) := by decide +kernel
theorem dJ0_checkIndex_df160_5 : decode cJ0_checkIndex_df160 5 = .ok (.invokestatic 1059, 3) := by decide +kernel
theorem dJ0_checkIndex_df160_8 : decode cJ0_checkIndex_df160 8 = .ok (.pop, 1) := by decide +kernel
theorem dJ0_checkIndex_df160_9 : decode cJ0_checkIndex_df160 9 = .ok (.return_, 1) := by decide +kernel
theorem dJ1_charAt_3b067_0 : decode cJ1_charAt_3b067 0 = .ok (.iload_n 1, 1) := by decide +kernel
theorem dJ1_charAt_3b067_1 : decode cJ1_charAt_3b067 1 = .ok (.aload_n 0, 1) := by decide +kernel
theorem dJ1_charAt_3b067_2 : decode cJ1_charAt_3b067 2 = .ok (.arraylength, 1) := by decide +kernel
theorem dJ1_charAt_3b067_3 : decode cJ1_charAt_3b067 3 = .ok (.invokestatic 9, 3) := by decide +kernel
theorem dJ1_charAt_3b067_6 : decode cJ1_charAt_3b067 6 = .ok (.aload_n 0, 1) := by decide +kernel
theorem dJ1_charAt_3b067_7 : decode cJ1_charAt_3b067 7 = .ok (.iload_n 1, 1) := by decide +kernel
theorem dJ1_charAt_3b067_8 : decode cJ1_charAt_3b067 8 = .ok (.baload, 1) := by decide +kernel
theorem dJ1_charAt_3b067_9 : decode cJ1_charAt_3b067 9 = .ok (.sipush 255, 3) := by decide +kernel
theorem dJ1_charAt_3b067_12 : decode cJ1_charAt_3b067 12 = .ok (.iand, 1) := by decide +kernel
theorem dJ1_charAt_3b067_13 : decode cJ1_charAt_3b067 13 = .ok (.i2c, 1) := by decide +kernel
theorem dJ1_charAt_3b067_14 : decode cJ1_charAt_3b067 14 = .ok (.ireturn, 1) := by decide +kernel
theorem dJ3_checkIndex_8e157_0 : decode cJ3_checkIndex_8e157 0 = .ok (.iload_n 0, 1) := by decide +kernel
theorem dJ3_checkIndex_8e157_1 : decode cJ3_checkIndex_8e157 1 = .ok (.ifCond .lt 8, 3) := by decide +kernel
theorem dJ3_checkIndex_8e157_4 : decode cJ3_checkIndex_8e157 4 = .ok (.iload_n 0, 1) := by decide +kernel
theorem dJ3_checkIndex_8e157_5 : decode cJ3_checkIndex_8e157 5 = .ok (.iload_n 1, 1) := by decide +kernel
theorem dJ3_checkIndex_8e157_6 : decode cJ3_checkIndex_8e157 6 = .ok (.if_icmp .lt 10, 3) := by decide +kernel
theorem dJ3_checkIndex_8e157_9 : decode cJ3_checkIndex_8e157 9 = .ok (.aload_n 2, 1) := by decide +kernel
theorem dJ3_checkIndex_8e157_10 : decode cJ3_checkIndex_8e157 10 = .ok (.iload_n 0, 1) := by decide +kernel
theorem dJ3_checkIndex_8e157_11 : decode cJ3_checkIndex_8e157 11 = .ok (.iload_n 1, 1) := by decide +kernel
theorem dJ3_checkIndex_8e157_12 : decode cJ3_checkIndex_8e157 12 = .ok (.invokestatic 95, 3) := by decide +kernel
theorem dJ3_checkIndex_8e157_15 : decode cJ3_checkIndex_8e157 15 = .ok (.athrow, 1) := by decide +kernel
theorem dJ3_checkIndex_8e157_16 : decode cJ3_checkIndex_8e157 16 = .ok (.iload_n 0, 1) := by decide +kernel
theorem dJ3_checkIndex_8e157_17 : decode cJ3_checkIndex_8e157 17 = .ok (.ireturn, 1) := by decide +kernel
set_option maxRecDepth 100000 in
theorem jf_38 : Cond.fieldLink RJ0 38 "java/lang/String" "COMPACT_STRINGS" "Z" ∈ BW := bw_in (List.mem_of_getElem? (i := 592) (by rfl)) (by rfl)
set_option maxRecDepth 100000 in
theorem jf_15 : Cond.fieldLink RJ0 15 "java/lang/String" "coder" "B" ∈ BW := bw_in (List.mem_of_getElem? (i := 779) (by rfl)) (by rfl)
set_option maxRecDepth 100000 in
theorem jf_9 : Cond.fieldLink RJ0 9 "java/lang/String" "value" "[B" ∈ BW := bw_in (List.mem_of_getElem? (i := 778) (by rfl)) (by rfl)
set_option maxRecDepth 100000 in
theorem jf_1053 : Cond.fieldLink RJ0 1053 "jdk/internal/util/Preconditions" "SIOOBE_FORMATTER" "Ljava/util/function/BiFunction;" ∈ BW := bw_in (List.mem_of_getElem? (i := 570) (by rfl)) (by rfl)
set_option maxRecDepth 100000 in
theorem jc_coder : Cond.code yJ0_coder_7d493 cJ0_coder_7d493 1 (some .byte) ∈ BW := bw_in (List.mem_of_getElem? (i := 591) (by rfl)) (by rfl)
set_option maxRecDepth 100000 in
theorem ji_coder : Cond.instanceMethod yJ0_coder_7d493 ∈ BW := bw_in (List.mem_of_getElem? (i := 589) (by rfl)) (by rfl)
set_option maxRecDepth 100000 in
theorem js_coder : Cond.selects "java/lang/String" yJ0_coder_7d493 yJ0_coder_7d493 ∈ BW := bw_in (List.mem_of_getElem? (i := 590) (by rfl)) (by rfl)
set_option maxRecDepth 100000 in
theorem jl_RJ0_335 : Cond.methodLink RJ0 335 yJ0_coder_7d493 ∈ BW := bw_in (List.mem_of_getElem? (i := 588) (by rfl)) (by rfl)
set_option maxRecDepth 100000 in
theorem jc_length : Cond.code yJ0_length_8abf5 cJ0_length_8abf5 1 (some .int) ∈ BW := bw_in (List.mem_of_getElem? (i := 587) (by rfl)) (by rfl)
set_option maxRecDepth 100000 in
theorem ji_length : Cond.instanceMethod yJ0_length_8abf5 ∈ BW := bw_in (List.mem_of_getElem? (i := 585) (by rfl)) (by rfl)
set_option maxRecDepth 100000 in
theorem js_length : Cond.selects "java/lang/String" yJ0_length_8abf5 yJ0_length_8abf5 ∈ BW := bw_in (List.mem_of_getElem? (i := 586) (by rfl)) (by rfl)
set_option maxRecDepth 100000 in
theorem jc_isLatin1 : Cond.code yJ0_isLatin1_aae02 cJ0_isLatin1_aae02 1 (some .boolean) ∈ BW := bw_in (List.mem_of_getElem? (i := 978) (by rfl)) (by rfl)
set_option maxRecDepth 100000 in
theorem ji_isLatin1 : Cond.instanceMethod yJ0_isLatin1_aae02 ∈ BW := bw_in (List.mem_of_getElem? (i := 976) (by rfl)) (by rfl)
set_option maxRecDepth 100000 in
theorem js_isLatin1 : Cond.selects "java/lang/String" yJ0_isLatin1_aae02 yJ0_isLatin1_aae02 ∈ BW := bw_in (List.mem_of_getElem? (i := 977) (by rfl)) (by rfl)
set_option maxRecDepth 100000 in
theorem jl_RJ0_492 : Cond.methodLink RJ0 492 yJ0_isLatin1_aae02 ∈ BW := bw_in (List.mem_of_getElem? (i := 975) (by rfl)) (by rfl)
set_option maxRecDepth 100000 in
theorem jc_charAt : Cond.code yJ0_charAt_5068e cJ0_charAt_5068e 2 (some .char) ∈ BW := bw_in (List.mem_of_getElem? (i := 974) (by rfl)) (by rfl)
set_option maxRecDepth 100000 in
theorem ji_charAt : Cond.instanceMethod yJ0_charAt_5068e ∈ BW := bw_in (List.mem_of_getElem? (i := 972) (by rfl)) (by rfl)
set_option maxRecDepth 100000 in
theorem js_charAt : Cond.selects "java/lang/String" yJ0_charAt_5068e yJ0_charAt_5068e ∈ BW := bw_in (List.mem_of_getElem? (i := 973) (by rfl)) (by rfl)
set_option maxRecDepth 100000 in
theorem jc_l1charAt : Cond.code yJ1_charAt_3b067 cJ1_charAt_3b067 2 (some .char) ∈ BW := bw_in (List.mem_of_getElem? (i := 981) (by rfl)) (by rfl)
set_option maxRecDepth 100000 in
theorem jt_l1charAt : Cond.static yJ1_charAt_3b067 ∈ BW := bw_in (List.mem_of_getElem? (i := 980) (by rfl)) (by rfl)
set_option maxRecDepth 100000 in
theorem jl_RJ0_495 : Cond.methodLink RJ0 495 yJ1_charAt_3b067 ∈ BW := bw_in (List.mem_of_getElem? (i := 979) (by rfl)) (by rfl)
set_option maxRecDepth 100000 in
theorem jc_scheck : Cond.code yJ0_checkIndex_df160 cJ0_checkIndex_df160 2 none ∈ BW := bw_in (List.mem_of_getElem? (i := 813) (by rfl)) (by rfl)
set_option maxRecDepth 100000 in
theorem jt_scheck : Cond.static yJ0_checkIndex_df160 ∈ BW := bw_in (List.mem_of_getElem? (i := 812) (by rfl)) (by rfl)
set_option maxRecDepth 100000 in
theorem jl_RJ1_9 : Cond.methodLink RJ1 9 yJ0_checkIndex_df160 ∈ BW := bw_in (List.mem_of_getElem? (i := 982) (by rfl)) (by rfl)
set_option maxRecDepth 100000 in
theorem jc_pcheck : Cond.code yJ3_checkIndex_8e157 cJ3_checkIndex_8e157 3 (some .int) ∈ BW := bw_in (List.mem_of_getElem? (i := 816) (by rfl)) (by rfl)
set_option maxRecDepth 100000 in
theorem jt_pcheck : Cond.static yJ3_checkIndex_8e157 ∈ BW := bw_in (List.mem_of_getElem? (i := 815) (by rfl)) (by rfl)
set_option maxRecDepth 100000 in
theorem jl_RJ0_1059 : Cond.methodLink RJ0 1059 yJ3_checkIndex_8e157 ∈ BW := bw_in (List.mem_of_getElem? (i := 814) (by rfl)) (by rfl)
set_option maxRecDepth 100000 in
theorem jn_RJ0 : Cond.initialized RJ0 ∈ BW := bw_in (List.mem_of_getElem? (i := 53) (by rfl)) (by rfl)
set_option maxRecDepth 100000 in
theorem jn_RJ1 : Cond.initialized RJ1 ∈ BW := bw_in (List.mem_of_getElem? (i := 60) (by rfl)) (by rfl)
set_option maxRecDepth 100000 in
theorem jn_RJ3 : Cond.initialized RJ3 ∈ BW := bw_in (List.mem_of_getElem? (i := 59) (by rfl)) (by rfl)
theorem x_tret {l : Launch} {g : GL} {p : Program} {e : Jvm.Env} {R0 : Room} {s : State} {m : MethodId} {args : Array Value} {below : List Frame} {meth : Method} {c : Code} {H : Heap} {locs : List Loc} {cells slots : Nat} {cc : ByteArray} {nL : Nat} {own : String} {pc : Nat} {ls : Array Slot} {σ : SI} {R : Nat → Nat → Nat} {L : Nat → Nat → Int64} {ty : FieldType} {r : Int32 × SI} (C : Cx l g p s m meth c cc nL own) (S : S2 g s σ R L H locs) (hr : meth.sig.returnType = some ty) {v : Int32} (hn : narrow ty (.int v) = .int v) (hp : some (v, σ) = some r) (hdg : decode cc pc = .ok (.ireturn, 1)) : W p l e R0 s m args below meth c H locs cells slots (MQ below (Qg g 202 (PI R L r)) args s cells slots (gA g)) (F0 m pc ls [.int v]) :=
  W.zret C.1 C.2.1 hr hn (fun t ht _ => ⟨⟨_, mkS σ R L, rfl, by cases hp; exact ⟨rfl, rfl⟩, by rw [ht]; exact S.1⟩, S.2.F ht⟩) S.2.2.2 hdg C.2.2.2.2.2.2
def chS (t : Nat) (i : Int32) : Int32 := (((strByt.getD t []).getD i.toNatClampNeg 0 &&& 255).toUInt32 % 65536).toInt32
def lnS (t : Nat) : Int32 := Int32.ofNat (strLen.getD t 0) >>> ((0 : Int32) &&& 31)
set_option maxRecDepth 100000 in
theorem ok_coder {l : Launch} {g : GL} {R : Nat → Nat → Nat} {L : Nat → Nat → Int64} {σ : SI} {t : Nat} (ht : t < 22) : Ct l g 1 yJ0_coder_7d493 cJ0_coder_7d493 1 (some .byte) 202 202 0 0 [.ref (gS g t)] (mkS σ R L) (PI R L (0, σ)) := by
  refine Met.ofW (cc := cJ0_coder_7d493) (maxL := 1) (ret := (some .byte)) (by decide) rfl ?_
  intro p e s m args below meth c s₁ B hml hv
  obtain ⟨rfl, hE, hLo, hWd⟩ := hv
  have hr : meth.sig.returnType = (some .byte) := B.returns
  have C : Cx l g p s m meth c cJ0_coder_7d493 1 RJ0 := ⟨B.exec, B.bytes, hml, findClass_of_methodNamed B.named, hE, hLo, B.notSynchronized⟩
  have S : S2 g s σ R L s.heap [] := ⟨hWd, va_S.rf⟩
  have hx := C.1
  have hb := C.2.1
  have hl := lv_entry ([.ref (gS g t)]) (n := 1) (Nat.le_of_ble_eq_true rfl)
  rw [lg_entry_eq]
  generalize (lg_sl ([.ref (gS g t)]) ++ List.replicate (1 - (lg_sl ([.ref (gS g t)])).length) Slot.unset).toArray = ls at hl ⊢
  have hl : lv_has ls 1 [(0, .ref (gS g t))] := hl
  refine x_compact C S jf_38 dJ0_coder_7d493_0 ?_
  refine lv_if_eq (tgt := 13) hx hb dJ0_coder_7d493_3 (by decide) (fun c => absurd c (by decide)) (fun _ => ?_)
  refine lv_aload_n hx hb dJ0_coder_7d493_6 rfl (lv_at hl 0 rfl) ?_
  refine x_scoder C S ht jf_15 dJ0_coder_7d493_7 ?_
  refine lv_goto (tgt := 14) hx hb dJ0_coder_7d493_10 (by decide) ?_
  exact x_tret C S hr rfl rfl dJ0_coder_7d493_14
set_option maxRecDepth 100000 in
theorem ok_length {l : Launch} {g : GL} {R : Nat → Nat → Nat} {L : Nat → Nat → Int64} {σ : SI} {t : Nat} (ht : t < 22) : Ct l g 2 yJ0_length_8abf5 cJ0_length_8abf5 1 (some .int) 202 202 0 0 [.ref (gS g t)] (mkS σ R L) (PI R L (lnS t, σ)) := by
  refine Met.ofW (cc := cJ0_length_8abf5) (maxL := 1) (ret := (some .int)) (by decide) rfl ?_
  intro p e s m args below meth c s₁ B hml hv
  obtain ⟨rfl, hE, hLo, hWd⟩ := hv
  have hr : meth.sig.returnType = (some .int) := B.returns
  have C : Cx l g p s m meth c cJ0_length_8abf5 1 RJ0 := ⟨B.exec, B.bytes, hml, findClass_of_methodNamed B.named, hE, hLo, B.notSynchronized⟩
  have S : S2 g s σ R L s.heap [] := ⟨hWd, va_S.rf⟩
  have hx := C.1
  have hb := C.2.1
  have hl := lv_entry ([.ref (gS g t)]) (n := 1) (Nat.le_of_ble_eq_true rfl)
  rw [lg_entry_eq]
  generalize (lg_sl ([.ref (gS g t)]) ++ List.replicate (1 - (lg_sl ([.ref (gS g t)])).length) Slot.unset).toArray = ls at hl ⊢
  have hl : lv_has ls 1 [(0, .ref (gS g t))] := hl
  refine lv_aload_n hx hb dJ0_length_8abf5_0 rfl (lv_at hl 0 rfl) ?_
  refine x_svalue C S ht jf_9 dJ0_length_8abf5_1 ?_
  refine x_slen C S ht dJ0_length_8abf5_4 ?_
  refine lv_aload_n hx hb dJ0_length_8abf5_5 rfl (lv_at hl 0 rfl) ?_
  refine x_callJ C S ht (ok_coder ht) ⟨jc_coder, jn_RJ0, jl_RJ0_335, ji_coder, js_coder⟩ ⟨by decide, by decide⟩ rfl (rm_ok (by decide) (by decide)) hl.1 rfl (Nat.le_of_ble_eq_true rfl) ⟨by decide, by decide⟩ dJ0_length_8abf5_6 (fun H locs S => ?_)
  refine lv_ishr hx hb dJ0_length_8abf5_9 ?_
  exact x_iret C S hr rfl dJ0_length_8abf5_10
set_option maxRecDepth 100000 in
theorem ok_isLatin1 {l : Launch} {g : GL} {R : Nat → Nat → Nat} {L : Nat → Nat → Int64} {σ : SI} {t : Nat} (ht : t < 22) : Ct l g 1 yJ0_isLatin1_aae02 cJ0_isLatin1_aae02 1 (some .boolean) 202 202 0 0 [.ref (gS g t)] (mkS σ R L) (PI R L (1, σ)) := by
  refine Met.ofW (cc := cJ0_isLatin1_aae02) (maxL := 1) (ret := (some .boolean)) (by decide) rfl ?_
  intro p e s m args below meth c s₁ B hml hv
  obtain ⟨rfl, hE, hLo, hWd⟩ := hv
  have hr : meth.sig.returnType = (some .boolean) := B.returns
  have C : Cx l g p s m meth c cJ0_isLatin1_aae02 1 RJ0 := ⟨B.exec, B.bytes, hml, findClass_of_methodNamed B.named, hE, hLo, B.notSynchronized⟩
  have S : S2 g s σ R L s.heap [] := ⟨hWd, va_S.rf⟩
  have hx := C.1
  have hb := C.2.1
  have hl := lv_entry ([.ref (gS g t)]) (n := 1) (Nat.le_of_ble_eq_true rfl)
  rw [lg_entry_eq]
  generalize (lg_sl ([.ref (gS g t)]) ++ List.replicate (1 - (lg_sl ([.ref (gS g t)])).length) Slot.unset).toArray = ls at hl ⊢
  have hl : lv_has ls 1 [(0, .ref (gS g t))] := hl
  refine x_compact C S jf_38 dJ0_isLatin1_aae02_0 ?_
  refine lv_if_eq (tgt := 17) hx hb dJ0_isLatin1_aae02_3 (by decide) (fun c => absurd c (by decide)) (fun _ => ?_)
  refine lv_aload_n hx hb dJ0_isLatin1_aae02_6 rfl (lv_at hl 0 rfl) ?_
  refine x_scoder C S ht jf_15 dJ0_isLatin1_aae02_7 ?_
  refine lv_if_ne (tgt := 17) hx hb dJ0_isLatin1_aae02_10 (by decide) (fun c => absurd rfl c) (fun _ => ?_)
  refine lv_iconst (v := (1 : Int32)) hx hb dJ0_isLatin1_aae02_13 (by decide) ?_
  refine lv_goto (tgt := 18) hx hb dJ0_isLatin1_aae02_14 (by decide) ?_
  exact x_tret C S hr rfl rfl dJ0_isLatin1_aae02_18
set_option maxRecDepth 100000 in
theorem ok_pcheckN {l : Launch} {g : GL} {R : Nat → Nat → Nat} {L : Nat → Nat → Int64} {σ : SI} {i n : Int32} (h0 : ¬ i < 0) (h1 : i < n) : Ct l g 1 yJ3_checkIndex_8e157 cJ3_checkIndex_8e157 3 (some .int) 202 202 0 0 [.int i, .int n, .null] (mkS σ R L) (PI R L (i, σ)) := by
  refine Met.ofW (cc := cJ3_checkIndex_8e157) (maxL := 3) (ret := (some .int)) (by decide) rfl ?_
  intro p e s m args below meth c s₁ B hml hv
  obtain ⟨rfl, hE, hLo, hWd⟩ := hv
  have hr : meth.sig.returnType = (some .int) := B.returns
  have C : Cx l g p s m meth c cJ3_checkIndex_8e157 3 RJ3 := ⟨B.exec, B.bytes, hml, findClass_of_methodNamed B.named, hE, hLo, B.notSynchronized⟩
  have S : S2 g s σ R L s.heap [] := ⟨hWd, va_S.rf⟩
  have hx := C.1
  have hb := C.2.1
  have hl := lv_entry ([.int i, .int n, .null]) (n := 3) (Nat.le_of_ble_eq_true rfl)
  rw [lg_entry_eq]
  generalize (lg_sl ([.int i, .int n, .null]) ++ List.replicate (3 - (lg_sl ([.int i, .int n, .null])).length) Slot.unset).toArray = ls at hl ⊢
  have hl : lv_has ls 3 [(0, .int i), (1, .int n), (2, .null)] := hl
  refine lv_iload_n hx hb dJ3_checkIndex_8e157_0 rfl (lv_at hl 0 rfl) ?_
  refine lv_if_lt (tgt := 9) hx hb dJ3_checkIndex_8e157_1 (by decide) (fun c => absurd c h0) (fun _ => ?_)
  refine lv_iload_n hx hb dJ3_checkIndex_8e157_4 rfl (lv_at hl 0 rfl) ?_
  refine lv_iload_n hx hb dJ3_checkIndex_8e157_5 rfl (lv_at hl 1 rfl) ?_
  refine lv_icmp_lt (tgt := 16) hx hb dJ3_checkIndex_8e157_6 (by decide) (fun _ => ?_) (fun c => absurd h1 c)
  refine lv_iload_n hx hb dJ3_checkIndex_8e157_16 rfl (lv_at hl 0 rfl) ?_
  exact x_iret C S hr rfl dJ3_checkIndex_8e157_17
set_option maxRecDepth 100000 in
theorem ok_pcheckR {l : Launch} {g : GL} {R : Nat → Nat → Nat} {L : Nat → Nat → Int64} {σ : SI} {i n : Int32} {q : Nat} (h0 : ¬ i < 0) (h1 : i < n) : Ct l g 1 yJ3_checkIndex_8e157 cJ3_checkIndex_8e157 3 (some .int) 202 202 0 0 [.int i, .int n, .ref q] (mkS σ R L) (PI R L (i, σ)) := by
  refine Met.ofW (cc := cJ3_checkIndex_8e157) (maxL := 3) (ret := (some .int)) (by decide) rfl ?_
  intro p e s m args below meth c s₁ B hml hv
  obtain ⟨rfl, hE, hLo, hWd⟩ := hv
  have hr : meth.sig.returnType = (some .int) := B.returns
  have C : Cx l g p s m meth c cJ3_checkIndex_8e157 3 RJ3 := ⟨B.exec, B.bytes, hml, findClass_of_methodNamed B.named, hE, hLo, B.notSynchronized⟩
  have S : S2 g s σ R L s.heap [] := ⟨hWd, va_S.rf⟩
  have hx := C.1
  have hb := C.2.1
  have hl := lv_entry ([.int i, .int n, .ref q]) (n := 3) (Nat.le_of_ble_eq_true rfl)
  rw [lg_entry_eq]
  generalize (lg_sl ([.int i, .int n, .ref q]) ++ List.replicate (3 - (lg_sl ([.int i, .int n, .ref q])).length) Slot.unset).toArray = ls at hl ⊢
  have hl : lv_has ls 3 [(0, .int i), (1, .int n), (2, .ref q)] := hl
  refine lv_iload_n hx hb dJ3_checkIndex_8e157_0 rfl (lv_at hl 0 rfl) ?_
  refine lv_if_lt (tgt := 9) hx hb dJ3_checkIndex_8e157_1 (by decide) (fun c => absurd c h0) (fun _ => ?_)
  refine lv_iload_n hx hb dJ3_checkIndex_8e157_4 rfl (lv_at hl 0 rfl) ?_
  refine lv_iload_n hx hb dJ3_checkIndex_8e157_5 rfl (lv_at hl 1 rfl) ?_
  refine lv_icmp_lt (tgt := 16) hx hb dJ3_checkIndex_8e157_6 (by decide) (fun _ => ?_) (fun c => absurd h1 c)
  refine lv_iload_n hx hb dJ3_checkIndex_8e157_16 rfl (lv_at hl 0 rfl) ?_
  exact x_iret C S hr rfl dJ3_checkIndex_8e157_17
set_option maxRecDepth 100000 in
theorem ok_scheck {l : Launch} {g : GL} {R : Nat → Nat → Nat} {L : Nat → Nat → Int64} {σ : SI} {i n : Int32} (h0 : ¬ i < 0) (h1 : i < n) : Ct l g 2 yJ0_checkIndex_df160 cJ0_checkIndex_df160 2 none 202 202 0 0 [.int i, .int n] (mkS σ R L) (PV R L ((), σ)) := by
  refine Met.ofW (cc := cJ0_checkIndex_df160) (maxL := 2) (ret := none) (by decide) rfl ?_
  intro p e s m args below meth c s₁ B hml hv
  obtain ⟨rfl, hE, hLo, hWd⟩ := hv
  have hr : meth.sig.returnType = none := B.returns
  have C : Cx l g p s m meth c cJ0_checkIndex_df160 2 RJ0 := ⟨B.exec, B.bytes, hml, findClass_of_methodNamed B.named, hE, hLo, B.notSynchronized⟩
  have S : S2 g s σ R L s.heap [] := ⟨hWd, va_S.rf⟩
  have hx := C.1
  have hb := C.2.1
  have hl := lv_entry ([.int i, .int n]) (n := 2) (Nat.le_of_ble_eq_true rfl)
  rw [lg_entry_eq]
  generalize (lg_sl ([.int i, .int n]) ++ List.replicate (2 - (lg_sl ([.int i, .int n])).length) Slot.unset).toArray = ls at hl ⊢
  have hl : lv_has ls 2 [(0, .int i), (1, .int n)] := hl
  refine lv_iload_n hx hb dJ0_checkIndex_df160_0 rfl (lv_at hl 0 rfl) ?_
  refine lv_iload_n hx hb dJ0_checkIndex_df160_1 rfl (lv_at hl 1 rfl) ?_
  refine x_form C S jf_1053 dJ0_checkIndex_df160_2 ?_ (fun q => ?_)
  · refine x_callSI C S (ok_pcheckN h0 h1) ⟨jc_pcheck, jn_RJ3, jl_RJ0_1059, jt_pcheck⟩ ⟨by decide, by decide⟩ rfl (rm_ok (by decide) (by decide)) hl.1 rfl (Nat.le_of_ble_eq_true rfl) ⟨by decide, by decide⟩ dJ0_checkIndex_df160_5 (fun H locs S => ?_)
    refine lv_pop hx hb dJ0_checkIndex_df160_8 rfl ?_
    exact x_vret C S hr rfl dJ0_checkIndex_df160_9
  · refine x_callSI C S (ok_pcheckR h0 h1) ⟨jc_pcheck, jn_RJ3, jl_RJ0_1059, jt_pcheck⟩ ⟨by decide, by decide⟩ rfl (rm_ok (by decide) (by decide)) hl.1 rfl (Nat.le_of_ble_eq_true rfl) ⟨by decide, by decide⟩ dJ0_checkIndex_df160_5 (fun H locs S => ?_)
    refine lv_pop hx hb dJ0_checkIndex_df160_8 rfl ?_
    exact x_vret C S hr rfl dJ0_checkIndex_df160_9
theorem s_nneg {i : Int32} {n : Nat} (h : vp_in i n) : ¬ i < 0 := fun q => h (Or.inl q)
theorem s_len : ∀ t, t < 22 → strLen.getD t 0 < 2 ^ 31 := by decide
theorem s_lt {i : Int32} {t : Nat} (ht : t < 22) (h : vp_in i (strLen.getD t 0)) : i < Int32.ofNat (strLen.getD t 0) := by
  obtain ⟨j, hj, rfl⟩ := vp_in_of h (s_len t ht)
  exact nI_lt hj (s_len t ht)
set_option maxRecDepth 100000 in
theorem ok_l1charAt {l : Launch} {g : GL} {R : Nat → Nat → Nat} {L : Nat → Nat → Int64} {σ : SI} {t : Nat} {i : Int32} (ht : t < 22) (hi : vp_in i (strLen.getD t 0)) : Ct l g 3 yJ1_charAt_3b067 cJ1_charAt_3b067 2 (some .char) 202 202 0 0 [.ref (gV g t), .int i] (mkS σ R L) (PI R L (chS t i, σ)) := by
  refine Met.ofW (cc := cJ1_charAt_3b067) (maxL := 2) (ret := (some .char)) (by decide) rfl ?_
  intro p e s m args below meth c s₁ B hml hv
  obtain ⟨rfl, hE, hLo, hWd⟩ := hv
  have hr : meth.sig.returnType = (some .char) := B.returns
  have C : Cx l g p s m meth c cJ1_charAt_3b067 2 RJ1 := ⟨B.exec, B.bytes, hml, findClass_of_methodNamed B.named, hE, hLo, B.notSynchronized⟩
  have S : S2 g s σ R L s.heap [] := ⟨hWd, va_S.rf⟩
  have hx := C.1
  have hb := C.2.1
  have hl := lv_entry ([.ref (gV g t), .int i]) (n := 2) (Nat.le_of_ble_eq_true rfl)
  rw [lg_entry_eq]
  generalize (lg_sl ([.ref (gV g t), .int i]) ++ List.replicate (2 - (lg_sl ([.ref (gV g t), .int i])).length) Slot.unset).toArray = ls at hl ⊢
  have hl : lv_has ls 2 [(0, .ref (gV g t)), (1, .int i)] := hl
  refine lv_iload_n hx hb dJ1_charAt_3b067_0 rfl (lv_at hl 1 rfl) ?_
  refine lv_aload_n hx hb dJ1_charAt_3b067_1 rfl (lv_at hl 0 rfl) ?_
  refine x_slen C S ht dJ1_charAt_3b067_2 ?_
  refine x_callSV C S (ok_scheck (s_nneg hi) (s_lt ht hi)) ⟨jc_scheck, jn_RJ0, jl_RJ1_9, jt_scheck⟩ ⟨by decide, by decide⟩ rfl (rm_ok (by decide) (by decide)) hl.1 rfl (Nat.le_of_ble_eq_true rfl) ⟨by decide, by decide⟩ dJ1_charAt_3b067_3 (fun H locs S => ?_)
  refine lv_aload_n hx hb dJ1_charAt_3b067_6 rfl (lv_at hl 0 rfl) ?_
  refine lv_iload_n hx hb dJ1_charAt_3b067_7 rfl (lv_at hl 1 rfl) ?_
  refine x_sbald C S ht hi dJ1_charAt_3b067_8 ?_
  refine lv_sipush (v := (255 : Int32)) hx hb dJ1_charAt_3b067_9 (by decide) ?_
  refine lv_iand hx hb dJ1_charAt_3b067_12 ?_
  refine lv_i2c hx hb dJ1_charAt_3b067_13 rfl ?_
  exact x_tret C S hr (pk_nc _) rfl dJ1_charAt_3b067_14
set_option maxRecDepth 100000 in
theorem ok_charAt {l : Launch} {g : GL} {R : Nat → Nat → Nat} {L : Nat → Nat → Int64} {σ : SI} {t : Nat} {i : Int32} (ht : t < 22) (hi : vp_in i (strLen.getD t 0)) : Ct l g 4 yJ0_charAt_5068e cJ0_charAt_5068e 2 (some .char) 202 202 0 0 [.ref (gS g t), .int i] (mkS σ R L) (PI R L (chS t i, σ)) := by
  refine Met.ofW (cc := cJ0_charAt_5068e) (maxL := 2) (ret := (some .char)) (by decide) rfl ?_
  intro p e s m args below meth c s₁ B hml hv
  obtain ⟨rfl, hE, hLo, hWd⟩ := hv
  have hr : meth.sig.returnType = (some .char) := B.returns
  have C : Cx l g p s m meth c cJ0_charAt_5068e 2 RJ0 := ⟨B.exec, B.bytes, hml, findClass_of_methodNamed B.named, hE, hLo, B.notSynchronized⟩
  have S : S2 g s σ R L s.heap [] := ⟨hWd, va_S.rf⟩
  have hx := C.1
  have hb := C.2.1
  have hl := lv_entry ([.ref (gS g t), .int i]) (n := 2) (Nat.le_of_ble_eq_true rfl)
  rw [lg_entry_eq]
  generalize (lg_sl ([.ref (gS g t), .int i]) ++ List.replicate (2 - (lg_sl ([.ref (gS g t), .int i])).length) Slot.unset).toArray = ls at hl ⊢
  have hl : lv_has ls 2 [(0, .ref (gS g t)), (1, .int i)] := hl
  refine lv_aload_n hx hb dJ0_charAt_5068e_0 rfl (lv_at hl 0 rfl) ?_
  refine x_callJ C S ht (ok_isLatin1 ht) ⟨jc_isLatin1, jn_RJ0, jl_RJ0_492, ji_isLatin1, js_isLatin1⟩ ⟨by decide, by decide⟩ rfl (rm_ok (by decide) (by decide)) hl.1 rfl (Nat.le_of_ble_eq_true rfl) ⟨by decide, by decide⟩ dJ0_charAt_5068e_1 (fun H locs S => ?_)
  refine lv_if_eq (tgt := 16) hx hb dJ0_charAt_5068e_4 (by decide) (fun c => absurd c (by decide)) (fun _ => ?_)
  refine lv_aload_n hx hb dJ0_charAt_5068e_7 rfl (lv_at hl 0 rfl) ?_
  refine x_svalue C S ht jf_9 dJ0_charAt_5068e_8 ?_
  refine lv_iload_n hx hb dJ0_charAt_5068e_11 rfl (lv_at hl 1 rfl) ?_
  refine x_callSI C S (ok_l1charAt ht hi) ⟨jc_l1charAt, jn_RJ1, jl_RJ0_495, jt_l1charAt⟩ ⟨by decide, by decide⟩ rfl (rm_ok (by decide) (by decide)) hl.1 rfl (Nat.le_of_ble_eq_true rfl) ⟨by decide, by decide⟩ dJ0_charAt_5068e_12 (fun H locs S => ?_)
  exact x_tret C S hr (pk_nc _) rfl dJ0_charAt_5068e_15
