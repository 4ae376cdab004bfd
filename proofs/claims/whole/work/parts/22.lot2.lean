theorem dX12_longestAllowed_0 : decode cX12_longestAllowed 0 = .ok (.aload_n 0, 1) := by decide +kernel
theorem dX12_longestAllowed_1 : decode cX12_longestAllowed 1 = .ok (.iconst 0, 1) := by decide +kernel
theorem dX12_longestAllowed_2 : decode cX12_longestAllowed 2 = .ok (.putfield 3, 3) := by decide +kernel
theorem dX12_longestAllowed_5 : decode cX12_longestAllowed 5 = .ok (.aload_n 0, 1) := by decide +kernel
theorem dX12_longestAllowed_6 : decode cX12_longestAllowed 6 = .ok (.iload_n 1, 1) := by decide +kernel
theorem dX12_longestAllowed_7 : decode cX12_longestAllowed 7 = .ok (.invokevirtual 198, 3) := by decide +kernel
theorem dX12_longestAllowed_10 : decode cX12_longestAllowed 10 = .ok (.ifCond .eq 5, 3) := by decide +kernel
theorem dX12_longestAllowed_13 : decode cX12_longestAllowed 13 = .ok (.iconst 0, 1) := by decide +kernel
theorem dX12_longestAllowed_14 : decode cX12_longestAllowed 14 = .ok (.ireturn, 1) := by decide +kernel
theorem dX12_longestAllowed_15 : decode cX12_longestAllowed 15 = .ok (.iconst 0, 1) := by decide +kernel
theorem dX12_longestAllowed_16 : decode cX12_longestAllowed 16 = .ok (.istore_n 2, 1) := by decide +kernel
theorem dX12_longestAllowed_17 : decode cX12_longestAllowed 17 = .ok (.iconst 0, 1) := by decide +kernel
theorem dX12_longestAllowed_18 : decode cX12_longestAllowed 18 = .ok (.istore_n 3, 1) := by decide +kernel
theorem dX12_longestAllowed_19 : decode cX12_longestAllowed 19 = .ok (.iconst 0, 1) := by decide +kernel
theorem dX12_longestAllowed_20 : decode cX12_longestAllowed 20 = .ok (.istore 4, 2) := by decide +kernel
theorem dX12_longestAllowed_22 : decode cX12_longestAllowed 22 = .ok (.iload 4, 2) := by decide +kernel
theorem dX12_longestAllowed_24 : decode cX12_longestAllowed 24 = .ok (.aload_n 0, 1) := by decide +kernel
theorem dX12_longestAllowed_25 : decode cX12_longestAllowed 25 = .ok (.invokevirtual 195, 3) := by decide +kernel
theorem dX12_longestAllowed_28 : decode cX12_longestAllowed 28 = .ok (.if_icmp .ge 37, 3) := by decide +kernel
theorem dX12_longestAllowed_31 : decode cX12_longestAllowed 31 = .ok (.aload_n 0, 1) := by decide +kernel
theorem dX12_longestAllowed_32 : decode cX12_longestAllowed 32 = .ok (.iload_n 1, 1) := by decide +kernel
theorem dX12_longestAllowed_33 : decode cX12_longestAllowed 33 = .ok (.aload_n 0, 1) := by decide +kernel
theorem dX12_longestAllowed_34 : decode cX12_longestAllowed 34 = .ok (.iload 4, 2) := by decide +kernel
theorem dX12_longestAllowed_36 : decode cX12_longestAllowed 36 = .ok (.invokevirtual 302, 3) := by decide +kernel
theorem dX12_longestAllowed_39 : decode cX12_longestAllowed 39 = .ok (.invokevirtual 299, 3) := by decide +kernel
theorem dX12_longestAllowed_42 : decode cX12_longestAllowed 42 = .ok (.ifCond .ne 9, 3) := by decide +kernel
theorem dX12_longestAllowed_45 : decode cX12_longestAllowed 45 = .ok (.iload_n 2, 1) := by decide +kernel
theorem dX12_longestAllowed_46 : decode cX12_longestAllowed 46 = .ok (.iconst 1, 1) := by decide +kernel
theorem dX12_longestAllowed_47 : decode cX12_longestAllowed 47 = .ok (.iadd, 1) := by decide +kernel
theorem dX12_longestAllowed_48 : decode cX12_longestAllowed 48 = .ok (.goto 4, 3) := by decide +kernel
theorem dX12_longestAllowed_51 : decode cX12_longestAllowed 51 = .ok (.iconst 0, 1) := by decide +kernel
theorem dX12_longestAllowed_52 : decode cX12_longestAllowed 52 = .ok (.istore_n 2, 1) := by decide +kernel
theorem dX12_longestAllowed_53 : decode cX12_longestAllowed 53 = .ok (.iload_n 3, 1) := by decide +kernel
theorem dX12_longestAllowed_54 : decode cX12_longestAllowed 54 = .ok (.iload_n 2, 1) := by decide +kernel
theorem dX12_longestAllowed_55 : decode cX12_longestAllowed 55 = .ok (.invokestatic 220, 3) := by decide +kernel
theorem dX12_longestAllowed_58 : decode cX12_longestAllowed 58 = .ok (.istore_n 3, 1) := by decide +kernel
theorem dX12_longestAllowed_59 : decode cX12_longestAllowed 59 = .ok (.iinc 4 1, 3) := by decide +kernel
theorem dX12_longestAllowed_62 : decode cX12_longestAllowed 62 = .ok (.goto (-40), 3) := by decide +kernel
theorem dX12_longestAllowed_65 : decode cX12_longestAllowed 65 = .ok (.iload_n 3, 1) := by decide +kernel
theorem dX12_longestAllowed_66 : decode cX12_longestAllowed 66 = .ok (.ireturn, 1) := by decide +kernel
def f_X12_longestAllowed_22 (N : Nat) (R : Nat → Nat → Nat) : Nat → SI → Nat → Int32 → Int32 → Int32 → Int32 → Option (Int32 × SI)
  | 0, _, _, _, _, _, _ => none
  | n + 1, σ, x0, x1, x2, x3, x4 => bd (f_X12_starts N R σ x0) (fun a4 σ4 => if a4 ≤ x4 then (some (x3, σ4)) else (bd (f_X12_startAt N R σ4 x0 x4) (fun a6 σ6 => bd (f_X12_why N R σ6 x0 x1 a6) (fun a7 σ7 => if a7 = 0 then (f_X12_longestAllowed_22 N R n σ7 x0 x1 (x2 + (1 : Int32)) (if x3 < (x2 + (1 : Int32)) then (x2 + (1 : Int32)) else x3) (x4 + 1)) else (f_X12_longestAllowed_22 N R n σ7 x0 x1 (0 : Int32) (if x3 < (0 : Int32) then (0 : Int32) else x3) (x4 + 1))))))
def f_X12_longestAllowed (N : Nat) (R : Nat → Nat → Nat) (σ : SI) (x0 : Nat) (x1 : Int32) : Option (Int32 × SI) := sq (up σ x0 0 (0 : Int32)) (fun σ1 => bd (f_X12_noBlast N R σ1 x0 x1) (fun a2 σ2 => if a2 = 0 then (f_X12_longestAllowed_22 N R N σ2 x0 x1 (0 : Int32) (0 : Int32) (0 : Int32)) else (some ((0 : Int32), σ2))))
set_option maxHeartbeats 4000000 in
set_option maxRecDepth 100000 in
theorem w_X12_longestAllowed_22 {l : Launch} {g : GL} {p : Program} {e : Jvm.Env} {s : State} {m : MethodId} {args : Array Value} {below : List Frame} {meth : Method} {c : Code} {R : Nat → Nat → Nat} {L : Nat → Nat → Int64} {r : (Int32 × SI)} {N : Nat} (C : Cx l g p s m meth c cX12_longestAllowed 5 RX12) (hr : meth.sig.returnType = (some .int)) (hSh : ShR R) : ∀ (n : Nat) (σ : SI) (x0 : Nat) (x1 : Int32) (x2 : Int32) (x3 : Int32) (x4 : Int32), f_X12_longestAllowed_22 N R n σ x0 x1 x2 x3 x4 = some r → Ok 194 x0 12 → ∀ (H : Heap) (locs : List Loc) (ls : Array Slot), S2 g s σ R L H locs → lv_has ls 5 [(0, .ref (gb g + x0)), (1, .int x1), (2, .int x2), (3, .int x3), (4, .int x4)] → W p l e (rmd 9 0 0) s m args below meth c H locs 0 0 (MQ below (Qg g 194 (PI R L r)) args s 0 0 (gA g)) (F0 m 22 ls []) := by
  have hx := C.1
  have hb := C.2.1
  intro n
  induction n with
  | zero =>
    intro σ x0 x1 x2 x3 x4 h
    cases (show (none : Option (Int32 × SI)) = some r from h)
  | succ n ih =>
    intro σ x0 x1 x2 x3 x4 h hx0 H locs ls S hl
    rw [f_X12_longestAllowed_22] at h
    refine lv_iload hx hb dX12_longestAllowed_22 (lv_at hl 4 rfl) ?_
    refine lv_aload_n hx hb dX12_longestAllowed_24 rfl (lv_at hl 0 rfl) ?_
    obtain ⟨a4, σ4, hc4, h⟩ := bd_el h
    refine x_callVI C S KX12 hx0 (ok_X12_starts (L := L) hc4 hSh hx0) ⟨cd_X12_starts, ni_RX12, ml_RX12_195, in_X12_starts, sl_X12_starts⟩ ⟨by decide, by decide⟩ rfl ⟨by decide, by decide⟩ hl.1 rfl (Nat.le_of_ble_eq_true rfl) ⟨by decide, by decide⟩ dX12_longestAllowed_25 (fun H locs S => ?_)
    refine lv_icmp_ge (tgt := 65) hx hb dX12_longestAllowed_28 (by decide) (fun c5 => ?_) (fun c5 => ?_)
    · have h := it_p c5 h
      refine lv_iload_n hx hb dX12_longestAllowed_65 rfl (lv_at hl 3 rfl) ?_
      exact x_iret C S hr h dX12_longestAllowed_66
    · have h := it_n c5 h
      refine lv_aload_n hx hb dX12_longestAllowed_31 rfl (lv_at hl 0 rfl) ?_
      refine lv_iload_n hx hb dX12_longestAllowed_32 rfl (lv_at hl 1 rfl) ?_
      refine lv_aload_n hx hb dX12_longestAllowed_33 rfl (lv_at hl 0 rfl) ?_
      refine lv_iload hx hb dX12_longestAllowed_34 (lv_at hl 4 rfl) ?_
      obtain ⟨a6, σ6, hc6, h⟩ := bd_el h
      refine x_callVI C S KX12 hx0 (ok_X12_startAt (L := L) hc6 hSh hx0) ⟨cd_X12_startAt, ni_RX12, ml_RX12_302, in_X12_startAt, sl_X12_startAt⟩ ⟨by decide, by decide⟩ rfl ⟨by decide, by decide⟩ hl.1 rfl (Nat.le_of_ble_eq_true rfl) ⟨by decide, by decide⟩ dX12_longestAllowed_36 (fun H locs S => ?_)
      obtain ⟨a7, σ7, hc7, h⟩ := bd_el h
      refine x_callVI C S KX12 hx0 (ok_X12_why (L := L) hc7 hSh hx0) ⟨cd_X12_why, ni_RX12, ml_RX12_299, in_X12_why, sl_X12_why⟩ ⟨by decide, by decide⟩ rfl ⟨by decide, by decide⟩ hl.1 rfl (Nat.le_of_ble_eq_true rfl) ⟨by decide, by decide⟩ dX12_longestAllowed_39 (fun H locs S => ?_)
      refine lv_if_ne (tgt := 51) hx hb dX12_longestAllowed_42 (by decide) (fun c8 => ?_) (fun c8 => ?_)
      · have h := it_n c8 h
        refine lv_iconst (v := (0 : Int32)) hx hb dX12_longestAllowed_51 (by decide) ?_
        refine lv_istore_n (lv' := [(2, .int (0 : Int32)), (0, .ref (gb g + x0)), (1, .int x1), (3, .int x3), (4, .int x4)]) hx hb dX12_longestAllowed_52 rfl hl (by decide) rfl (fun ls hl => ?_)
        refine lv_iload_n hx hb dX12_longestAllowed_53 rfl (lv_at hl 3 rfl) ?_
        refine lv_iload_n hx hb dX12_longestAllowed_54 rfl (lv_at hl 0 rfl) ?_
        refine x_max C hl.1 ⟨ml_RX12_220, st_math_max, ni_math, cd_math_max⟩ (Nat.le_of_ble_eq_true rfl) (Nat.le_of_ble_eq_true rfl) (Nat.le_of_ble_eq_true rfl) (Nat.le_of_ble_eq_true rfl) dX12_longestAllowed_55 ?_
        refine lv_istore_n (lv' := [(3, .int (if x3 < (0 : Int32) then (0 : Int32) else x3)), (2, .int (0 : Int32)), (0, .ref (gb g + x0)), (1, .int x1), (4, .int x4)]) hx hb dX12_longestAllowed_58 rfl hl (by decide) rfl (fun ls hl => ?_)
        refine lv_iinc (v := x4 + 1) (lv' := [(4, .int (x4 + 1)), (3, .int (if x3 < (0 : Int32) then (0 : Int32) else x3)), (2, .int (0 : Int32)), (0, .ref (gb g + x0)), (1, .int x1)]) hx hb dX12_longestAllowed_59 hl (k := 4) rfl rfl (by decide) rfl (fun ls hl => ?_)
        refine lv_goto (tgt := 22) hx hb dX12_longestAllowed_62 (by decide) ?_
        exact ih σ7 x0 x1 (0 : Int32) (if x3 < (0 : Int32) then (0 : Int32) else x3) (x4 + 1) h hx0 H locs ls S (lv_sub hl [3, 4, 2, 1, 0] rfl)
      · have h := it_p c8 h
        refine lv_iload_n hx hb dX12_longestAllowed_45 rfl (lv_at hl 2 rfl) ?_
        refine lv_iconst (v := (1 : Int32)) hx hb dX12_longestAllowed_46 (by decide) ?_
        refine lv_iadd hx hb dX12_longestAllowed_47 ?_
        refine lv_goto (tgt := 52) hx hb dX12_longestAllowed_48 (by decide) ?_
        refine lv_istore_n (lv' := [(2, .int (x2 + (1 : Int32))), (0, .ref (gb g + x0)), (1, .int x1), (3, .int x3), (4, .int x4)]) hx hb dX12_longestAllowed_52 rfl hl (by decide) rfl (fun ls hl => ?_)
        refine lv_iload_n hx hb dX12_longestAllowed_53 rfl (lv_at hl 3 rfl) ?_
        refine lv_iload_n hx hb dX12_longestAllowed_54 rfl (lv_at hl 0 rfl) ?_
        refine x_max C hl.1 ⟨ml_RX12_220, st_math_max, ni_math, cd_math_max⟩ (Nat.le_of_ble_eq_true rfl) (Nat.le_of_ble_eq_true rfl) (Nat.le_of_ble_eq_true rfl) (Nat.le_of_ble_eq_true rfl) dX12_longestAllowed_55 ?_
        refine lv_istore_n (lv' := [(3, .int (if x3 < (x2 + (1 : Int32)) then (x2 + (1 : Int32)) else x3)), (2, .int (x2 + (1 : Int32))), (0, .ref (gb g + x0)), (1, .int x1), (4, .int x4)]) hx hb dX12_longestAllowed_58 rfl hl (by decide) rfl (fun ls hl => ?_)
        refine lv_iinc (v := x4 + 1) (lv' := [(4, .int (x4 + 1)), (3, .int (if x3 < (x2 + (1 : Int32)) then (x2 + (1 : Int32)) else x3)), (2, .int (x2 + (1 : Int32))), (0, .ref (gb g + x0)), (1, .int x1)]) hx hb dX12_longestAllowed_59 hl (k := 4) rfl rfl (by decide) rfl (fun ls hl => ?_)
        refine lv_goto (tgt := 22) hx hb dX12_longestAllowed_62 (by decide) ?_
        exact ih σ7 x0 x1 (x2 + (1 : Int32)) (if x3 < (x2 + (1 : Int32)) then (x2 + (1 : Int32)) else x3) (x4 + 1) h hx0 H locs ls S (lv_sub hl [3, 4, 2, 1, 0] rfl)
set_option maxHeartbeats 4000000 in
set_option maxRecDepth 100000 in
theorem ok_X12_longestAllowed {l : Launch} {g : GL} {R : Nat → Nat → Nat} {L : Nat → Nat → Int64} {N : Nat} {σ : SI} {x0 : Nat} {x1 : Int32} {r : (Int32 × SI)} (h : f_X12_longestAllowed N R σ x0 x1 = some r) (hSh : ShR R) (hx0 : Ok 194 x0 12) : Ct l g 9 yX12_longestAllowed cX12_longestAllowed 5 (some .int) 194 194 0 0 [.ref (gb g + x0), .int x1] (mkS σ R L) (PI R L r) := by
  refine Met.ofW (cc := cX12_longestAllowed) (maxL := 5) (ret := (some .int)) (by decide) rfl ?_
  intro p e s m args below meth c s₁ B hml hv
  obtain ⟨rfl, hE, hLo, hWd⟩ := hv
  have hr : meth.sig.returnType = (some .int) := B.returns
  have C : Cx l g p s m meth c cX12_longestAllowed 5 RX12 := ⟨B.exec, B.bytes, hml, findClass_of_methodNamed B.named, hE, hLo, B.notSynchronized⟩
  have S : S2 g s σ R L s.heap [] := ⟨hWd, va_S.rf⟩
  have hx := C.1
  have hb := C.2.1
  have hl := lv_entry ([.ref (gb g + x0), .int x1]) (n := 5) (Nat.le_of_ble_eq_true rfl)
  rw [lg_entry_eq]
  generalize (lg_sl ([.ref (gb g + x0), .int x1]) ++ List.replicate (5 - (lg_sl ([.ref (gb g + x0), .int x1])).length) Slot.unset).toArray = ls at hl ⊢
  have hl : lv_has ls 5 [(0, .ref (gb g + x0)), (1, .int x1)] := hl
  generalize hH : s.heap = H at S ⊢
  generalize hlc : ([] : List Loc) = locs at S ⊢
  rw [f_X12_longestAllowed] at h
  refine lv_aload_n hx hb dX12_longestAllowed_0 rfl (lv_at hl 0 rfl) ?_
  refine lv_iconst (v := (0 : Int32)) hx hb dX12_longestAllowed_1 (by decide) ?_
  obtain ⟨σ1, hs1, h⟩ := sq_el h
  refine x_putI C S KX12 hx0 0 (by decide) rfl rfl rfl ⟨rfl, rfl⟩ fl_RX12_3 dX12_longestAllowed_2 hs1 (fun H locs S => ?_)
  refine lv_aload_n hx hb dX12_longestAllowed_5 rfl (lv_at hl 0 rfl) ?_
  refine lv_iload_n hx hb dX12_longestAllowed_6 rfl (lv_at hl 1 rfl) ?_
  obtain ⟨a2, σ2, hc2, h⟩ := bd_el h
  refine x_callVI C S KX12 hx0 (ok_X12_noBlast (L := L) hc2 hSh hx0) ⟨cd_X12_noBlast, ni_RX12, ml_RX12_198, in_X12_noBlast, sl_X12_noBlast⟩ ⟨by decide, by decide⟩ rfl ⟨by decide, by decide⟩ hl.1 rfl (Nat.le_of_ble_eq_true rfl) ⟨by decide, by decide⟩ dX12_longestAllowed_7 (fun H locs S => ?_)
  refine lv_if_eq (tgt := 15) hx hb dX12_longestAllowed_10 (by decide) (fun c3 => ?_) (fun c3 => ?_)
  · have h := it_p c3 h
    refine lv_iconst (v := (0 : Int32)) hx hb dX12_longestAllowed_15 (by decide) ?_
    refine lv_istore_n (lv' := [(2, .int (0 : Int32)), (0, .ref (gb g + x0)), (1, .int x1)]) hx hb dX12_longestAllowed_16 rfl hl (by decide) rfl (fun ls hl => ?_)
    refine lv_iconst (v := (0 : Int32)) hx hb dX12_longestAllowed_17 (by decide) ?_
    refine lv_istore_n (lv' := [(3, .int (0 : Int32)), (2, .int (0 : Int32)), (0, .ref (gb g + x0)), (1, .int x1)]) hx hb dX12_longestAllowed_18 rfl hl (by decide) rfl (fun ls hl => ?_)
    refine lv_iconst (v := (0 : Int32)) hx hb dX12_longestAllowed_19 (by decide) ?_
    refine lv_istore (lv' := [(4, .int (0 : Int32)), (3, .int (0 : Int32)), (2, .int (0 : Int32)), (0, .ref (gb g + x0)), (1, .int x1)]) hx hb dX12_longestAllowed_20 hl (by decide) rfl (fun ls hl => ?_)
    exact w_X12_longestAllowed_22 C hr hSh N σ2 x0 x1 (0 : Int32) (0 : Int32) (0 : Int32) h hx0 H locs ls S (lv_sub hl [3, 4, 2, 1, 0] rfl)
  · have h := it_n c3 h
    refine lv_iconst (v := (0 : Int32)) hx hb dX12_longestAllowed_13 (by decide) ?_
    exact x_iret C S hr h dX12_longestAllowed_14
theorem dX12_next_0 : decode cX12_next 0 = .ok (.iconst (-1), 1) := by decide +kernel
theorem dX12_next_1 : decode cX12_next 1 = .ok (.istore_n 2, 1) := by decide +kernel
theorem dX12_next_2 : decode cX12_next 2 = .ok (.iconst 0, 1) := by decide +kernel
theorem dX12_next_3 : decode cX12_next 3 = .ok (.istore_n 3, 1) := by decide +kernel
theorem dX12_next_4 : decode cX12_next 4 = .ok (.iload_n 3, 1) := by decide +kernel
theorem dX12_next_5 : decode cX12_next 5 = .ok (.aload_n 0, 1) := by decide +kernel
theorem dX12_next_6 : decode cX12_next 6 = .ok (.invokevirtual 142, 3) := by decide +kernel
theorem dX12_next_9 : decode cX12_next 9 = .ok (.if_icmp .ge 55, 3) := by decide +kernel
theorem dX12_next_12 : decode cX12_next 12 = .ok (.aload_n 0, 1) := by decide +kernel
theorem dX12_next_13 : decode cX12_next 13 = .ok (.iload_n 3, 1) := by decide +kernel
theorem dX12_next_14 : decode cX12_next 14 = .ok (.invokevirtual 281, 3) := by decide +kernel
theorem dX12_next_17 : decode cX12_next 17 = .ok (.iconst (-1), 1) := by decide +kernel
theorem dX12_next_18 : decode cX12_next 18 = .ok (.if_icmp .eq 40, 3) := by decide +kernel
theorem dX12_next_21 : decode cX12_next 21 = .ok (.aload_n 0, 1) := by decide +kernel
theorem dX12_next_22 : decode cX12_next 22 = .ok (.iload_n 3, 1) := by decide +kernel
theorem dX12_next_23 : decode cX12_next 23 = .ok (.invokevirtual 293, 3) := by decide +kernel
theorem dX12_next_26 : decode cX12_next 26 = .ok (.ifCond .ne 32, 3) := by decide +kernel
theorem dX12_next_29 : decode cX12_next 29 = .ok (.aload_n 0, 1) := by decide +kernel
theorem dX12_next_30 : decode cX12_next 30 = .ok (.iload_n 3, 1) := by decide +kernel
theorem dX12_next_31 : decode cX12_next 31 = .ok (.invokevirtual 281, 3) := by decide +kernel
theorem dX12_next_34 : decode cX12_next 34 = .ok (.iload_n 1, 1) := by decide +kernel
theorem dX12_next_35 : decode cX12_next 35 = .ok (.if_icmp .lt 23, 3) := by decide +kernel
theorem dX12_next_38 : decode cX12_next 38 = .ok (.iload_n 2, 1) := by decide +kernel
theorem dX12_next_39 : decode cX12_next 39 = .ok (.iconst (-1), 1) := by decide +kernel
theorem dX12_next_40 : decode cX12_next 40 = .ok (.if_icmp .eq 16, 3) := by decide +kernel
theorem dX12_next_43 : decode cX12_next 43 = .ok (.aload_n 0, 1) := by decide +kernel
theorem dX12_next_44 : decode cX12_next 44 = .ok (.iload_n 3, 1) := by decide +kernel
theorem dX12_next_45 : decode cX12_next 45 = .ok (.invokevirtual 281, 3) := by decide +kernel
theorem dX12_next_48 : decode cX12_next 48 = .ok (.aload_n 0, 1) := by decide +kernel
theorem dX12_next_49 : decode cX12_next 49 = .ok (.iload_n 2, 1) := by decide +kernel
theorem dX12_next_50 : decode cX12_next 50 = .ok (.invokevirtual 281, 3) := by decide +kernel
theorem dX12_next_53 : decode cX12_next 53 = .ok (.if_icmp .ge 5, 3) := by decide +kernel
theorem dX12_next_56 : decode cX12_next 56 = .ok (.iload_n 3, 1) := by decide +kernel
theorem dX12_next_57 : decode cX12_next 57 = .ok (.istore_n 2, 1) := by decide +kernel
theorem dX12_next_58 : decode cX12_next 58 = .ok (.iinc 3 1, 3) := by decide +kernel
theorem dX12_next_61 : decode cX12_next 61 = .ok (.goto (-57), 3) := by decide +kernel
theorem dX12_next_64 : decode cX12_next 64 = .ok (.iload_n 2, 1) := by decide +kernel
theorem dX12_next_65 : decode cX12_next 65 = .ok (.ireturn, 1) := by decide +kernel
def f_X12_next_58 (N : Nat) (R : Nat → Nat → Nat) (k4 : SI → Nat → Int32 → Int32 → Int32 → Option (Int32 × SI)) (σ : SI) (x0 : Nat) (x1 : Int32) (x2 : Int32) (x3 : Int32) : Option (Int32 × SI) := k4 σ x0 x1 x2 (x3 + 1)
def f_X12_next_56 (N : Nat) (R : Nat → Nat → Nat) (k4 : SI → Nat → Int32 → Int32 → Int32 → Option (Int32 × SI)) (σ : SI) (x0 : Nat) (x1 : Int32) (x3 : Int32) : Option (Int32 × SI) := f_X12_next_58 N R k4 σ x0 x1 x3 x3
def f_X12_next_4 (N : Nat) (R : Nat → Nat → Nat) : Nat → SI → Nat → Int32 → Int32 → Int32 → Option (Int32 × SI)
  | 0, _, _, _, _, _ => none
  | n + 1, σ, x0, x1, x2, x3 => bd (f_X12_blasts N R σ x0) (fun a1 σ1 => if a1 ≤ x3 then (some (x2, σ1)) else (bd (f_X12_time N R σ1 x0 x3) (fun a3 σ3 => if a3 = (-1 : Int32) then (f_X12_next_58 N R (fun σ x0 x1 x2 x3 => f_X12_next_4 N R n σ x0 x1 x2 x3) σ3 x0 x1 x2 x3) else (bd (f_X12_hasFired N R σ3 x0 x3) (fun a5 σ5 => if a5 = 0 then (bd (f_X12_time N R σ5 x0 x3) (fun a7 σ7 => if a7 < x1 then (f_X12_next_58 N R (fun σ x0 x1 x2 x3 => f_X12_next_4 N R n σ x0 x1 x2 x3) σ7 x0 x1 x2 x3) else (if x2 = (-1 : Int32) then (f_X12_next_56 N R (fun σ x0 x1 x2 x3 => f_X12_next_4 N R n σ x0 x1 x2 x3) σ7 x0 x1 x3) else (bd (f_X12_time N R σ7 x0 x3) (fun a10 σ10 => bd (f_X12_time N R σ10 x0 x2) (fun a11 σ11 => if a11 ≤ a10 then (f_X12_next_58 N R (fun σ x0 x1 x2 x3 => f_X12_next_4 N R n σ x0 x1 x2 x3) σ11 x0 x1 x2 x3) else (f_X12_next_56 N R (fun σ x0 x1 x2 x3 => f_X12_next_4 N R n σ x0 x1 x2 x3) σ11 x0 x1 x3))))))) else (f_X12_next_58 N R (fun σ x0 x1 x2 x3 => f_X12_next_4 N R n σ x0 x1 x2 x3) σ5 x0 x1 x2 x3))))))
def f_X12_next (N : Nat) (R : Nat → Nat → Nat) (σ : SI) (x0 : Nat) (x1 : Int32) : Option (Int32 × SI) := f_X12_next_4 N R N σ x0 x1 (-1 : Int32) (0 : Int32)
set_option maxHeartbeats 4000000 in
set_option maxRecDepth 100000 in
theorem w_X12_next_58 {l : Launch} {g : GL} {p : Program} {e : Jvm.Env} {s : State} {m : MethodId} {args : Array Value} {below : List Frame} {meth : Method} {c : Code} {R : Nat → Nat → Nat} {L : Nat → Nat → Int64} {r : (Int32 × SI)} {N : Nat} {k4 : SI → Nat → Int32 → Int32 → Int32 → Option (Int32 × SI)} (C : Cx l g p s m meth c cX12_next 4 RX12) (hr : meth.sig.returnType = (some .int)) (hSh : ShR R) (hk4 : ∀ (σ : SI) (x0 : Nat) (x1 : Int32) (x2 : Int32) (x3 : Int32), k4 σ x0 x1 x2 x3 = some r → Ok 194 x0 12 → ∀ (H : Heap) (locs : List Loc) (ls : Array Slot), S2 g s σ R L H locs → lv_has ls 4 [(0, .ref (gb g + x0)), (1, .int x1), (2, .int x2), (3, .int x3)] → W p l e (rmd 2 0 0) s m args below meth c H locs 0 0 (MQ below (Qg g 194 (PI R L r)) args s 0 0 (gA g)) (F0 m 4 ls [])) : ∀ (σ : SI) (x0 : Nat) (x1 : Int32) (x2 : Int32) (x3 : Int32), f_X12_next_58 N R k4 σ x0 x1 x2 x3 = some r → Ok 194 x0 12 → ∀ (H : Heap) (locs : List Loc) (ls : Array Slot), S2 g s σ R L H locs → lv_has ls 4 [(0, .ref (gb g + x0)), (1, .int x1), (2, .int x2), (3, .int x3)] → W p l e (rmd 2 0 0) s m args below meth c H locs 0 0 (MQ below (Qg g 194 (PI R L r)) args s 0 0 (gA g)) (F0 m 58 ls []) := by
  have hx := C.1
  have hb := C.2.1
  intro σ x0 x1 x2 x3 h hx0 H locs ls S hl
  rw [f_X12_next_58] at h
  refine lv_iinc (v := x3 + 1) (lv' := [(3, .int (x3 + 1)), (0, .ref (gb g + x0)), (1, .int x1), (2, .int x2)]) hx hb dX12_next_58 hl (k := 3) rfl rfl (by decide) rfl (fun ls hl => ?_)
  refine lv_goto (tgt := 4) hx hb dX12_next_61 (by decide) ?_
  exact hk4 σ x0 x1 x2 (x3 + 1) h hx0 H locs ls S (lv_sub hl [1, 2, 3, 0] rfl)
set_option maxHeartbeats 4000000 in
set_option maxRecDepth 100000 in
theorem w_X12_next_56 {l : Launch} {g : GL} {p : Program} {e : Jvm.Env} {s : State} {m : MethodId} {args : Array Value} {below : List Frame} {meth : Method} {c : Code} {R : Nat → Nat → Nat} {L : Nat → Nat → Int64} {r : (Int32 × SI)} {N : Nat} {k4 : SI → Nat → Int32 → Int32 → Int32 → Option (Int32 × SI)} (C : Cx l g p s m meth c cX12_next 4 RX12) (hr : meth.sig.returnType = (some .int)) (hSh : ShR R) (hk4 : ∀ (σ : SI) (x0 : Nat) (x1 : Int32) (x2 : Int32) (x3 : Int32), k4 σ x0 x1 x2 x3 = some r → Ok 194 x0 12 → ∀ (H : Heap) (locs : List Loc) (ls : Array Slot), S2 g s σ R L H locs → lv_has ls 4 [(0, .ref (gb g + x0)), (1, .int x1), (2, .int x2), (3, .int x3)] → W p l e (rmd 2 0 0) s m args below meth c H locs 0 0 (MQ below (Qg g 194 (PI R L r)) args s 0 0 (gA g)) (F0 m 4 ls [])) : ∀ (σ : SI) (x0 : Nat) (x1 : Int32) (x3 : Int32), f_X12_next_56 N R k4 σ x0 x1 x3 = some r → Ok 194 x0 12 → ∀ (H : Heap) (locs : List Loc) (ls : Array Slot), S2 g s σ R L H locs → lv_has ls 4 [(0, .ref (gb g + x0)), (1, .int x1), (3, .int x3)] → W p l e (rmd 2 0 0) s m args below meth c H locs 0 0 (MQ below (Qg g 194 (PI R L r)) args s 0 0 (gA g)) (F0 m 56 ls []) := by
  have hx := C.1
  have hb := C.2.1
  intro σ x0 x1 x3 h hx0 H locs ls S hl
  rw [f_X12_next_56] at h
  refine lv_iload_n hx hb dX12_next_56 rfl (lv_at hl 2 rfl) ?_
  refine lv_istore_n (lv' := [(2, .int x3), (0, .ref (gb g + x0)), (1, .int x1), (3, .int x3)]) hx hb dX12_next_57 rfl hl (by decide) rfl (fun ls hl => ?_)
  exact w_X12_next_58 C hr hSh hk4 σ x0 x1 x3 x3 h hx0 H locs ls S (lv_sub hl [1, 2, 0, 3] rfl)
set_option maxHeartbeats 4000000 in
set_option maxRecDepth 100000 in
theorem w_X12_next_4 {l : Launch} {g : GL} {p : Program} {e : Jvm.Env} {s : State} {m : MethodId} {args : Array Value} {below : List Frame} {meth : Method} {c : Code} {R : Nat → Nat → Nat} {L : Nat → Nat → Int64} {r : (Int32 × SI)} {N : Nat} (C : Cx l g p s m meth c cX12_next 4 RX12) (hr : meth.sig.returnType = (some .int)) (hSh : ShR R) : ∀ (n : Nat) (σ : SI) (x0 : Nat) (x1 : Int32) (x2 : Int32) (x3 : Int32), f_X12_next_4 N R n σ x0 x1 x2 x3 = some r → Ok 194 x0 12 → ∀ (H : Heap) (locs : List Loc) (ls : Array Slot), S2 g s σ R L H locs → lv_has ls 4 [(0, .ref (gb g + x0)), (1, .int x1), (2, .int x2), (3, .int x3)] → W p l e (rmd 2 0 0) s m args below meth c H locs 0 0 (MQ below (Qg g 194 (PI R L r)) args s 0 0 (gA g)) (F0 m 4 ls []) := by
  have hx := C.1
  have hb := C.2.1
  intro n
  induction n with
  | zero =>
    intro σ x0 x1 x2 x3 h
    cases (show (none : Option (Int32 × SI)) = some r from h)
  | succ n ih =>
    intro σ x0 x1 x2 x3 h hx0 H locs ls S hl
    rw [f_X12_next_4] at h
    refine lv_iload_n hx hb dX12_next_4 rfl (lv_at hl 3 rfl) ?_
    refine lv_aload_n hx hb dX12_next_5 rfl (lv_at hl 0 rfl) ?_
    obtain ⟨a1, σ1, hc1, h⟩ := bd_el h
    refine x_callVI C S KX12 hx0 (ok_X12_blasts (L := L) hc1 hSh hx0) ⟨cd_X12_blasts, ni_RX12, ml_RX12_142, in_X12_blasts, sl_X12_blasts⟩ ⟨by decide, by decide⟩ rfl ⟨by decide, by decide⟩ hl.1 rfl (Nat.le_of_ble_eq_true rfl) ⟨by decide, by decide⟩ dX12_next_6 (fun H locs S => ?_)
    refine lv_icmp_ge (tgt := 64) hx hb dX12_next_9 (by decide) (fun c2 => ?_) (fun c2 => ?_)
    · have h := it_p c2 h
      refine lv_iload_n hx hb dX12_next_64 rfl (lv_at hl 2 rfl) ?_
      exact x_iret C S hr h dX12_next_65
    · have h := it_n c2 h
      refine lv_aload_n hx hb dX12_next_12 rfl (lv_at hl 0 rfl) ?_
      refine lv_iload_n hx hb dX12_next_13 rfl (lv_at hl 3 rfl) ?_
      obtain ⟨a3, σ3, hc3, h⟩ := bd_el h
      refine x_callVI C S KX12 hx0 (ok_X12_time (L := L) hc3 hSh hx0) ⟨cd_X12_time, ni_RX12, ml_RX12_281, in_X12_time, sl_X12_time⟩ ⟨by decide, by decide⟩ rfl ⟨by decide, by decide⟩ hl.1 rfl (Nat.le_of_ble_eq_true rfl) ⟨by decide, by decide⟩ dX12_next_14 (fun H locs S => ?_)
      refine lv_iconst (v := (-1 : Int32)) hx hb dX12_next_17 (by decide) ?_
      refine lv_icmp_eq (tgt := 58) hx hb dX12_next_18 (by decide) (fun c4 => ?_) (fun c4 => ?_)
      · have h := it_p c4 h
        exact w_X12_next_58 C hr hSh ih σ3 x0 x1 x2 x3 h hx0 H locs ls S (lv_sub hl [0, 1, 2, 3] rfl)
      · have h := it_n c4 h
        refine lv_aload_n hx hb dX12_next_21 rfl (lv_at hl 0 rfl) ?_
        refine lv_iload_n hx hb dX12_next_22 rfl (lv_at hl 3 rfl) ?_
        obtain ⟨a5, σ5, hc5, h⟩ := bd_el h
        refine x_callVI C S KX12 hx0 (ok_X12_hasFired (L := L) hc5 hSh hx0) ⟨cd_X12_hasFired, ni_RX12, ml_RX12_293, in_X12_hasFired, sl_X12_hasFired⟩ ⟨by decide, by decide⟩ rfl ⟨by decide, by decide⟩ hl.1 rfl (Nat.le_of_ble_eq_true rfl) ⟨by decide, by decide⟩ dX12_next_23 (fun H locs S => ?_)
        refine lv_if_ne (tgt := 58) hx hb dX12_next_26 (by decide) (fun c6 => ?_) (fun c6 => ?_)
        · have h := it_n c6 h
          exact w_X12_next_58 C hr hSh ih σ5 x0 x1 x2 x3 h hx0 H locs ls S (lv_sub hl [0, 1, 2, 3] rfl)
        · have h := it_p c6 h
          refine lv_aload_n hx hb dX12_next_29 rfl (lv_at hl 0 rfl) ?_
          refine lv_iload_n hx hb dX12_next_30 rfl (lv_at hl 3 rfl) ?_
          obtain ⟨a7, σ7, hc7, h⟩ := bd_el h
          refine x_callVI C S KX12 hx0 (ok_X12_time (L := L) hc7 hSh hx0) ⟨cd_X12_time, ni_RX12, ml_RX12_281, in_X12_time, sl_X12_time⟩ ⟨by decide, by decide⟩ rfl ⟨by decide, by decide⟩ hl.1 rfl (Nat.le_of_ble_eq_true rfl) ⟨by decide, by decide⟩ dX12_next_31 (fun H locs S => ?_)
          refine lv_iload_n hx hb dX12_next_34 rfl (lv_at hl 1 rfl) ?_
          refine lv_icmp_lt (tgt := 58) hx hb dX12_next_35 (by decide) (fun c8 => ?_) (fun c8 => ?_)
          · have h := it_p c8 h
            exact w_X12_next_58 C hr hSh ih σ7 x0 x1 x2 x3 h hx0 H locs ls S (lv_sub hl [0, 1, 2, 3] rfl)
          · have h := it_n c8 h
            refine lv_iload_n hx hb dX12_next_38 rfl (lv_at hl 2 rfl) ?_
            refine lv_iconst (v := (-1 : Int32)) hx hb dX12_next_39 (by decide) ?_
            refine lv_icmp_eq (tgt := 56) hx hb dX12_next_40 (by decide) (fun c9 => ?_) (fun c9 => ?_)
            · have h := it_p c9 h
              exact w_X12_next_56 C hr hSh ih σ7 x0 x1 x3 h hx0 H locs ls S (lv_sub hl [0, 1, 3] rfl)
            · have h := it_n c9 h
              refine lv_aload_n hx hb dX12_next_43 rfl (lv_at hl 0 rfl) ?_
              refine lv_iload_n hx hb dX12_next_44 rfl (lv_at hl 3 rfl) ?_
              obtain ⟨a10, σ10, hc10, h⟩ := bd_el h
              refine x_callVI C S KX12 hx0 (ok_X12_time (L := L) hc10 hSh hx0) ⟨cd_X12_time, ni_RX12, ml_RX12_281, in_X12_time, sl_X12_time⟩ ⟨by decide, by decide⟩ rfl ⟨by decide, by decide⟩ hl.1 rfl (Nat.le_of_ble_eq_true rfl) ⟨by decide, by decide⟩ dX12_next_45 (fun H locs S => ?_)
              refine lv_aload_n hx hb dX12_next_48 rfl (lv_at hl 0 rfl) ?_
              refine lv_iload_n hx hb dX12_next_49 rfl (lv_at hl 2 rfl) ?_
              obtain ⟨a11, σ11, hc11, h⟩ := bd_el h
              refine x_callVI C S KX12 hx0 (ok_X12_time (L := L) hc11 hSh hx0) ⟨cd_X12_time, ni_RX12, ml_RX12_281, in_X12_time, sl_X12_time⟩ ⟨by decide, by decide⟩ rfl ⟨by decide, by decide⟩ hl.1 rfl (Nat.le_of_ble_eq_true rfl) ⟨by decide, by decide⟩ dX12_next_50 (fun H locs S => ?_)
              refine lv_icmp_ge (tgt := 58) hx hb dX12_next_53 (by decide) (fun c12 => ?_) (fun c12 => ?_)
              · have h := it_p c12 h
                exact w_X12_next_58 C hr hSh ih σ11 x0 x1 x2 x3 h hx0 H locs ls S (lv_sub hl [0, 1, 2, 3] rfl)
              · have h := it_n c12 h
                exact w_X12_next_56 C hr hSh ih σ11 x0 x1 x3 h hx0 H locs ls S (lv_sub hl [0, 1, 3] rfl)
set_option maxHeartbeats 4000000 in
set_option maxRecDepth 100000 in
theorem ok_X12_next {l : Launch} {g : GL} {R : Nat → Nat → Nat} {L : Nat → Nat → Int64} {N : Nat} {σ : SI} {x0 : Nat} {x1 : Int32} {r : (Int32 × SI)} (h : f_X12_next N R σ x0 x1 = some r) (hSh : ShR R) (hx0 : Ok 194 x0 12) : Ct l g 2 yX12_next cX12_next 4 (some .int) 194 194 0 0 [.ref (gb g + x0), .int x1] (mkS σ R L) (PI R L r) := by
  refine Met.ofW (cc := cX12_next) (maxL := 4) (ret := (some .int)) (by decide) rfl ?_
  intro p e s m args below meth c s₁ B hml hv
  obtain ⟨rfl, hE, hLo, hWd⟩ := hv
  have hr : meth.sig.returnType = (some .int) := B.returns
  have C : Cx l g p s m meth c cX12_next 4 RX12 := ⟨B.exec, B.bytes, hml, findClass_of_methodNamed B.named, hE, hLo, B.notSynchronized⟩
  have S : S2 g s σ R L s.heap [] := ⟨hWd, va_S.rf⟩
  have hx := C.1
  have hb := C.2.1
  have hl := lv_entry ([.ref (gb g + x0), .int x1]) (n := 4) (Nat.le_of_ble_eq_true rfl)
  rw [lg_entry_eq]
  generalize (lg_sl ([.ref (gb g + x0), .int x1]) ++ List.replicate (4 - (lg_sl ([.ref (gb g + x0), .int x1])).length) Slot.unset).toArray = ls at hl ⊢
  have hl : lv_has ls 4 [(0, .ref (gb g + x0)), (1, .int x1)] := hl
  generalize hH : s.heap = H at S ⊢
  generalize hlc : ([] : List Loc) = locs at S ⊢
  rw [f_X12_next] at h
  refine lv_iconst (v := (-1 : Int32)) hx hb dX12_next_0 (by decide) ?_
  refine lv_istore_n (lv' := [(2, .int (-1 : Int32)), (0, .ref (gb g + x0)), (1, .int x1)]) hx hb dX12_next_1 rfl hl (by decide) rfl (fun ls hl => ?_)
  refine lv_iconst (v := (0 : Int32)) hx hb dX12_next_2 (by decide) ?_
  refine lv_istore_n (lv' := [(3, .int (0 : Int32)), (2, .int (-1 : Int32)), (0, .ref (gb g + x0)), (1, .int x1)]) hx hb dX12_next_3 rfl hl (by decide) rfl (fun ls hl => ?_)
  exact w_X12_next_4 C hr hSh N σ x0 x1 (-1 : Int32) (0 : Int32) h hx0 H locs ls S (lv_sub hl [2, 3, 1, 0] rfl)
theorem dX12_nextBlast_0 : decode cX12_nextBlast 0 = .ok (.aload_n 0, 1) := by decide +kernel
theorem dX12_nextBlast_1 : decode cX12_nextBlast 1 = .ok (.iconst 0, 1) := by decide +kernel
theorem dX12_nextBlast_2 : decode cX12_nextBlast 2 = .ok (.putfield 3, 3) := by decide +kernel
theorem dX12_nextBlast_5 : decode cX12_nextBlast 5 = .ok (.aload_n 0, 1) := by decide +kernel
theorem dX12_nextBlast_6 : decode cX12_nextBlast 6 = .ok (.iload_n 1, 1) := by decide +kernel
theorem dX12_nextBlast_7 : decode cX12_nextBlast 7 = .ok (.invokevirtual 308, 3) := by decide +kernel
theorem dX12_nextBlast_10 : decode cX12_nextBlast 10 = .ok (.ireturn, 1) := by decide +kernel
def f_X12_nextBlast (N : Nat) (R : Nat → Nat → Nat) (σ : SI) (x0 : Nat) (x1 : Int32) : Option (Int32 × SI) := sq (up σ x0 0 (0 : Int32)) (fun σ1 => bd (f_X12_next N R σ1 x0 x1) (fun a2 σ2 => some (a2, σ2)))
set_option maxHeartbeats 4000000 in
set_option maxRecDepth 100000 in
theorem ok_X12_nextBlast {l : Launch} {g : GL} {R : Nat → Nat → Nat} {L : Nat → Nat → Int64} {N : Nat} {σ : SI} {x0 : Nat} {x1 : Int32} {r : (Int32 × SI)} (h : f_X12_nextBlast N R σ x0 x1 = some r) (hSh : ShR R) (hx0 : Ok 194 x0 12) : Ct l g 3 yX12_nextBlast cX12_nextBlast 2 (some .int) 194 194 0 0 [.ref (gb g + x0), .int x1] (mkS σ R L) (PI R L r) := by
  refine Met.ofW (cc := cX12_nextBlast) (maxL := 2) (ret := (some .int)) (by decide) rfl ?_
  intro p e s m args below meth c s₁ B hml hv
  obtain ⟨rfl, hE, hLo, hWd⟩ := hv
  have hr : meth.sig.returnType = (some .int) := B.returns
  have C : Cx l g p s m meth c cX12_nextBlast 2 RX12 := ⟨B.exec, B.bytes, hml, findClass_of_methodNamed B.named, hE, hLo, B.notSynchronized⟩
  have S : S2 g s σ R L s.heap [] := ⟨hWd, va_S.rf⟩
  have hx := C.1
  have hb := C.2.1
  have hl := lv_entry ([.ref (gb g + x0), .int x1]) (n := 2) (Nat.le_of_ble_eq_true rfl)
  rw [lg_entry_eq]
  generalize (lg_sl ([.ref (gb g + x0), .int x1]) ++ List.replicate (2 - (lg_sl ([.ref (gb g + x0), .int x1])).length) Slot.unset).toArray = ls at hl ⊢
  have hl : lv_has ls 2 [(0, .ref (gb g + x0)), (1, .int x1)] := hl
  generalize hH : s.heap = H at S ⊢
  generalize hlc : ([] : List Loc) = locs at S ⊢
  rw [f_X12_nextBlast] at h
  refine lv_aload_n hx hb dX12_nextBlast_0 rfl (lv_at hl 0 rfl) ?_
  refine lv_iconst (v := (0 : Int32)) hx hb dX12_nextBlast_1 (by decide) ?_
  obtain ⟨σ1, hs1, h⟩ := sq_el h
  refine x_putI C S KX12 hx0 0 (by decide) rfl rfl rfl ⟨rfl, rfl⟩ fl_RX12_3 dX12_nextBlast_2 hs1 (fun H locs S => ?_)
  refine lv_aload_n hx hb dX12_nextBlast_5 rfl (lv_at hl 0 rfl) ?_
  refine lv_iload_n hx hb dX12_nextBlast_6 rfl (lv_at hl 1 rfl) ?_
  obtain ⟨a2, σ2, hc2, h⟩ := bd_el h
  refine x_callVI C S KX12 hx0 (ok_X12_next (L := L) hc2 hSh hx0) ⟨cd_X12_next, ni_RX12, ml_RX12_308, in_X12_next, sl_X12_next⟩ ⟨by decide, by decide⟩ rfl ⟨by decide, by decide⟩ hl.1 rfl (Nat.le_of_ble_eq_true rfl) ⟨by decide, by decide⟩ dX12_nextBlast_7 (fun H locs S => ?_)
  exact x_iret C S hr h dX12_nextBlast_10
theorem dX12_keeps_0 : decode cX12_keeps 0 = .ok (.aload_n 0, 1) := by decide +kernel
theorem dX12_keeps_1 : decode cX12_keeps 1 = .ok (.getfield 189, 3) := by decide +kernel
theorem dX12_keeps_4 : decode cX12_keeps 4 = .ok (.bipush 16, 2) := by decide +kernel
theorem dX12_keeps_6 : decode cX12_keeps 6 = .ok (.if_icmp .ne 44, 3) := by decide +kernel
theorem dX12_keeps_9 : decode cX12_keeps 9 = .ok (.bipush 84, 2) := by decide +kernel
theorem dX12_keeps_11 : decode cX12_keeps 11 = .ok (.istore_n 1, 1) := by decide +kernel
theorem dX12_keeps_12 : decode cX12_keeps 12 = .ok (.iload_n 1, 1) := by decide +kernel
theorem dX12_keeps_13 : decode cX12_keeps 13 = .ok (.sipush 1344, 3) := by decide +kernel
theorem dX12_keeps_16 : decode cX12_keeps 16 = .ok (.if_icmp .ge 24, 3) := by decide +kernel
theorem dX12_keeps_19 : decode cX12_keeps 19 = .ok (.aload_n 0, 1) := by decide +kernel
theorem dX12_keeps_20 : decode cX12_keeps 20 = .ok (.getfield 100, 3) := by decide +kernel
theorem dX12_keeps_23 : decode cX12_keeps 23 = .ok (.iload_n 1, 1) := by decide +kernel
theorem dX12_keeps_24 : decode cX12_keeps 24 = .ok (.bipush 84, 2) := by decide +kernel
theorem dX12_keeps_26 : decode cX12_keeps 26 = .ok (.isub, 1) := by decide +kernel
theorem dX12_keeps_27 : decode cX12_keeps 27 = .ok (.aload_n 0, 1) := by decide +kernel
theorem dX12_keeps_28 : decode cX12_keeps 28 = .ok (.getfield 100, 3) := by decide +kernel
theorem dX12_keeps_31 : decode cX12_keeps 31 = .ok (.iload_n 1, 1) := by decide +kernel
theorem dX12_keeps_32 : decode cX12_keeps 32 = .ok (.iaload, 1) := by decide +kernel
theorem dX12_keeps_33 : decode cX12_keeps 33 = .ok (.iastore, 1) := by decide +kernel
theorem dX12_keeps_34 : decode cX12_keeps 34 = .ok (.iinc 1 1, 3) := by decide +kernel
theorem dX12_keeps_37 : decode cX12_keeps 37 = .ok (.goto (-25), 3) := by decide +kernel
theorem dX12_keeps_40 : decode cX12_keeps 40 = .ok (.aload_n 0, 1) := by decide +kernel
theorem dX12_keeps_41 : decode cX12_keeps 41 = .ok (.dup, 1) := by decide +kernel
theorem dX12_keeps_42 : decode cX12_keeps 42 = .ok (.getfield 189, 3) := by decide +kernel
theorem dX12_keeps_45 : decode cX12_keeps 45 = .ok (.iconst 1, 1) := by decide +kernel
theorem dX12_keeps_46 : decode cX12_keeps 46 = .ok (.isub, 1) := by decide +kernel
theorem dX12_keeps_47 : decode cX12_keeps 47 = .ok (.putfield 189, 3) := by decide +kernel
theorem dX12_keeps_50 : decode cX12_keeps 50 = .ok (.iconst 0, 1) := by decide +kernel
theorem dX12_keeps_51 : decode cX12_keeps 51 = .ok (.istore_n 1, 1) := by decide +kernel
theorem dX12_keeps_52 : decode cX12_keeps 52 = .ok (.iload_n 1, 1) := by decide +kernel
theorem dX12_keeps_53 : decode cX12_keeps 53 = .ok (.bipush 84, 2) := by decide +kernel
theorem dX12_keeps_55 : decode cX12_keeps 55 = .ok (.if_icmp .ge 29, 3) := by decide +kernel
theorem dX12_keeps_58 : decode cX12_keeps 58 = .ok (.aload_n 0, 1) := by decide +kernel
theorem dX12_keeps_59 : decode cX12_keeps 59 = .ok (.getfield 100, 3) := by decide +kernel
theorem dX12_keeps_62 : decode cX12_keeps 62 = .ok (.bipush 84, 2) := by decide +kernel
theorem dX12_keeps_64 : decode cX12_keeps 64 = .ok (.aload_n 0, 1) := by decide +kernel
theorem dX12_keeps_65 : decode cX12_keeps 65 = .ok (.getfield 189, 3) := by decide +kernel
theorem dX12_keeps_68 : decode cX12_keeps 68 = .ok (.imul, 1) := by decide +kernel
theorem dX12_keeps_69 : decode cX12_keeps 69 = .ok (.iload_n 1, 1) := by decide +kernel
theorem dX12_keeps_70 : decode cX12_keeps 70 = .ok (.iadd, 1) := by decide +kernel
theorem dX12_keeps_71 : decode cX12_keeps 71 = .ok (.aload_n 0, 1) := by decide +kernel
theorem dX12_keeps_72 : decode cX12_keeps 72 = .ok (.getfield 94, 3) := by decide +kernel
theorem dX12_keeps_75 : decode cX12_keeps 75 = .ok (.iload_n 1, 1) := by decide +kernel
theorem dX12_keeps_76 : decode cX12_keeps 76 = .ok (.iaload, 1) := by decide +kernel
theorem dX12_keeps_77 : decode cX12_keeps 77 = .ok (.iastore, 1) := by decide +kernel
theorem dX12_keeps_78 : decode cX12_keeps 78 = .ok (.iinc 1 1, 3) := by decide +kernel
theorem dX12_keeps_81 : decode cX12_keeps 81 = .ok (.goto (-29), 3) := by decide +kernel
theorem dX12_keeps_84 : decode cX12_keeps 84 = .ok (.aload_n 0, 1) := by decide +kernel
theorem dX12_keeps_85 : decode cX12_keeps 85 = .ok (.dup, 1) := by decide +kernel
theorem dX12_keeps_86 : decode cX12_keeps 86 = .ok (.getfield 189, 3) := by decide +kernel
theorem dX12_keeps_89 : decode cX12_keeps 89 = .ok (.iconst 1, 1) := by decide +kernel
theorem dX12_keeps_90 : decode cX12_keeps 90 = .ok (.iadd, 1) := by decide +kernel
theorem dX12_keeps_91 : decode cX12_keeps 91 = .ok (.putfield 189, 3) := by decide +kernel
theorem dX12_keeps_94 : decode cX12_keeps 94 = .ok (.return_, 1) := by decide +kernel
def f_X12_keeps_52 (N : Nat) (R : Nat → Nat → Nat) : Nat → SI → Nat → Int32 → Option (Unit × SI)
  | 0, _, _, _ => none
  | n + 1, σ, x0, x1 => if (84 : Int32) ≤ x1 then (sq (up σ x0 16 ((σ x0 16) + (1 : Int32))) (fun σ3 => some ((), σ3))) else (ck x1 84 (ck (((84 : Int32) * (σ x0 16)) + x1) 1344 (sq (up σ (R x0 15) (((84 : Int32) * (σ x0 16)) + x1).toNatClampNeg (σ (R x0 13) x1.toNatClampNeg)) (fun σ8 => f_X12_keeps_52 N R n σ8 x0 (x1 + 1)))))
def f_X12_keeps_50 (N : Nat) (R : Nat → Nat → Nat) (σ : SI) (x0 : Nat) : Option (Unit × SI) := f_X12_keeps_52 N R N σ x0 (0 : Int32)
def f_X12_keeps_12 (N : Nat) (R : Nat → Nat → Nat) : Nat → SI → Nat → Int32 → Option (Unit × SI)
  | 0, _, _, _ => none
  | n + 1, σ, x0, x1 => if (1344 : Int32) ≤ x1 then (sq (up σ x0 16 ((σ x0 16) - (1 : Int32))) (fun σ10 => f_X12_keeps_50 N R σ10 x0)) else (ck x1 1344 (ck (x1 - (84 : Int32)) 1344 (sq (up σ (R x0 15) (x1 - (84 : Int32)).toNatClampNeg (σ (R x0 15) x1.toNatClampNeg)) (fun σ15 => f_X12_keeps_12 N R n σ15 x0 (x1 + 1)))))
def f_X12_keeps (N : Nat) (R : Nat → Nat → Nat) (σ : SI) (x0 : Nat) : Option (Unit × SI) := if (σ x0 16) = (16 : Int32) then (f_X12_keeps_12 N R N σ x0 (84 : Int32)) else (f_X12_keeps_50 N R σ x0)
set_option maxHeartbeats 4000000 in
set_option maxRecDepth 100000 in
theorem w_X12_keeps_52 {l : Launch} {g : GL} {p : Program} {e : Jvm.Env} {s : State} {m : MethodId} {args : Array Value} {below : List Frame} {meth : Method} {c : Code} {R : Nat → Nat → Nat} {L : Nat → Nat → Int64} {r : (Unit × SI)} {N : Nat} (C : Cx l g p s m meth c cX12_keeps 2 RX12) (hr : meth.sig.returnType = none) (hSh : ShR R) : ∀ (n : Nat) (σ : SI) (x0 : Nat) (x1 : Int32), f_X12_keeps_52 N R n σ x0 x1 = some r → Ok 194 x0 12 → ∀ (H : Heap) (locs : List Loc) (ls : Array Slot), S2 g s σ R L H locs → lv_has ls 2 [(0, .ref (gb g + x0)), (1, .int x1)] → W p l e (rmd 1 0 0) s m args below meth c H locs 0 0 (MQ below (Qg g 194 (PV R L r)) args s 0 0 (gA g)) (F0 m 52 ls []) := by
  have hx := C.1
  have hb := C.2.1
  intro n
  induction n with
  | zero =>
    intro σ x0 x1 h
    cases (show (none : Option (Unit × SI)) = some r from h)
  | succ n ih =>
    intro σ x0 x1 h hx0 H locs ls S hl
    rw [f_X12_keeps_52] at h
    refine lv_iload_n hx hb dX12_keeps_52 rfl (lv_at hl 1 rfl) ?_
    refine lv_bipush (v := (84 : Int32)) hx hb dX12_keeps_53 (by decide) ?_
    refine lv_icmp_ge (tgt := 84) hx hb dX12_keeps_55 (by decide) (fun c2 => ?_) (fun c2 => ?_)
    · have h := it_p c2 h
      refine lv_aload_n hx hb dX12_keeps_84 rfl (lv_at hl 0 rfl) ?_
      refine lv_dup hx hb dX12_keeps_85 rfl ?_
      refine x_getI C S KX12 hx0 16 (by decide) rfl rfl fl_RX12_189 dX12_keeps_86 ?_
      refine lv_iconst (v := (1 : Int32)) hx hb dX12_keeps_89 (by decide) ?_
      refine lv_iadd hx hb dX12_keeps_90 ?_
      obtain ⟨σ3, hs3, h⟩ := sq_el h
      refine x_putI C S KX12 hx0 16 (by decide) rfl rfl rfl ⟨rfl, rfl⟩ fl_RX12_189 dX12_keeps_91 hs3 (fun H locs S => ?_)
      exact x_vret C S hr h dX12_keeps_94
    · have h := it_n c2 h
      refine lv_aload_n hx hb dX12_keeps_58 rfl (lv_at hl 0 rfl) ?_
      have hR4 : Ok 194 (R x0 15) 11344 := hSh x0 12 15 11344 hx0.1 rfl
      refine x_getR C S KX12 hx0 15 (by decide) rfl rfl fl_RX12_100 hR4 dX12_keeps_59 ?_
      refine lv_bipush (v := (84 : Int32)) hx hb dX12_keeps_62 (by decide) ?_
      refine lv_aload_n hx hb dX12_keeps_64 rfl (lv_at hl 0 rfl) ?_
      refine x_getI C S KX12 hx0 16 (by decide) rfl rfl fl_RX12_189 dX12_keeps_65 ?_
      refine lv_imul hx hb dX12_keeps_68 ?_
      refine lv_iload_n hx hb dX12_keeps_69 rfl (lv_at hl 1 rfl) ?_
      refine lv_iadd hx hb dX12_keeps_70 ?_
      refine lv_aload_n hx hb dX12_keeps_71 rfl (lv_at hl 0 rfl) ?_
      have hR5 : Ok 194 (R x0 13) 10084 := hSh x0 12 13 10084 hx0.1 rfl
      refine x_getR C S KX12 hx0 13 (by decide) rfl rfl fl_RX12_94 hR5 dX12_keeps_72 ?_
      refine lv_iload_n hx hb dX12_keeps_75 rfl (lv_at hl 1 rfl) ?_
      obtain ⟨hi6, h⟩ := ck_el h
      refine x_iald (len := 84) C S (by decide) hR5 hi6 dX12_keeps_76 ?_
      obtain ⟨hi7, h⟩ := ck_el h
      obtain ⟨σ8, hs8, h⟩ := sq_el h
      refine x_iast (len := 1344) C S (by decide) hR4 hi7 dX12_keeps_77 hs8 (fun H locs S => ?_)
      refine lv_iinc (v := x1 + 1) (lv' := [(1, .int (x1 + 1)), (0, .ref (gb g + x0))]) hx hb dX12_keeps_78 hl (k := 1) rfl rfl (by decide) rfl (fun ls hl => ?_)
      refine lv_goto (tgt := 52) hx hb dX12_keeps_81 (by decide) ?_
      exact ih σ8 x0 (x1 + 1) h hx0 H locs ls S (lv_sub hl [1, 0] rfl)
set_option maxHeartbeats 4000000 in
set_option maxRecDepth 100000 in
theorem w_X12_keeps_50 {l : Launch} {g : GL} {p : Program} {e : Jvm.Env} {s : State} {m : MethodId} {args : Array Value} {below : List Frame} {meth : Method} {c : Code} {R : Nat → Nat → Nat} {L : Nat → Nat → Int64} {r : (Unit × SI)} {N : Nat} (C : Cx l g p s m meth c cX12_keeps 2 RX12) (hr : meth.sig.returnType = none) (hSh : ShR R) : ∀ (σ : SI) (x0 : Nat), f_X12_keeps_50 N R σ x0 = some r → Ok 194 x0 12 → ∀ (H : Heap) (locs : List Loc) (ls : Array Slot), S2 g s σ R L H locs → lv_has ls 2 [(0, .ref (gb g + x0))] → W p l e (rmd 1 0 0) s m args below meth c H locs 0 0 (MQ below (Qg g 194 (PV R L r)) args s 0 0 (gA g)) (F0 m 50 ls []) := by
  have hx := C.1
  have hb := C.2.1
  intro σ x0 h hx0 H locs ls S hl
  rw [f_X12_keeps_50] at h
  refine lv_iconst (v := (0 : Int32)) hx hb dX12_keeps_50 (by decide) ?_
  refine lv_istore_n (lv' := [(1, .int (0 : Int32)), (0, .ref (gb g + x0))]) hx hb dX12_keeps_51 rfl hl (by decide) rfl (fun ls hl => ?_)
  exact w_X12_keeps_52 C hr hSh N σ x0 (0 : Int32) h hx0 H locs ls S (lv_sub hl [1, 0] rfl)
set_option maxHeartbeats 4000000 in
set_option maxRecDepth 100000 in
theorem w_X12_keeps_12 {l : Launch} {g : GL} {p : Program} {e : Jvm.Env} {s : State} {m : MethodId} {args : Array Value} {below : List Frame} {meth : Method} {c : Code} {R : Nat → Nat → Nat} {L : Nat → Nat → Int64} {r : (Unit × SI)} {N : Nat} (C : Cx l g p s m meth c cX12_keeps 2 RX12) (hr : meth.sig.returnType = none) (hSh : ShR R) : ∀ (n : Nat) (σ : SI) (x0 : Nat) (x1 : Int32), f_X12_keeps_12 N R n σ x0 x1 = some r → Ok 194 x0 12 → ∀ (H : Heap) (locs : List Loc) (ls : Array Slot), S2 g s σ R L H locs → lv_has ls 2 [(0, .ref (gb g + x0)), (1, .int x1)] → W p l e (rmd 1 0 0) s m args below meth c H locs 0 0 (MQ below (Qg g 194 (PV R L r)) args s 0 0 (gA g)) (F0 m 12 ls []) := by
  have hx := C.1
  have hb := C.2.1
  intro n
  induction n with
  | zero =>
    intro σ x0 x1 h
    cases (show (none : Option (Unit × SI)) = some r from h)
  | succ n ih =>
    intro σ x0 x1 h hx0 H locs ls S hl
    rw [f_X12_keeps_12] at h
    refine lv_iload_n hx hb dX12_keeps_12 rfl (lv_at hl 1 rfl) ?_
    refine lv_sipush (v := (1344 : Int32)) hx hb dX12_keeps_13 (by decide) ?_
    refine lv_icmp_ge (tgt := 40) hx hb dX12_keeps_16 (by decide) (fun c9 => ?_) (fun c9 => ?_)
    · have h := it_p c9 h
      refine lv_aload_n hx hb dX12_keeps_40 rfl (lv_at hl 0 rfl) ?_
      refine lv_dup hx hb dX12_keeps_41 rfl ?_
      refine x_getI C S KX12 hx0 16 (by decide) rfl rfl fl_RX12_189 dX12_keeps_42 ?_
      refine lv_iconst (v := (1 : Int32)) hx hb dX12_keeps_45 (by decide) ?_
      refine lv_isub hx hb dX12_keeps_46 ?_
      obtain ⟨σ10, hs10, h⟩ := sq_el h
      refine x_putI C S KX12 hx0 16 (by decide) rfl rfl rfl ⟨rfl, rfl⟩ fl_RX12_189 dX12_keeps_47 hs10 (fun H locs S => ?_)
      exact w_X12_keeps_50 C hr hSh σ10 x0 h hx0 H locs ls S (lv_sub hl [0] rfl)
    · have h := it_n c9 h
      refine lv_aload_n hx hb dX12_keeps_19 rfl (lv_at hl 0 rfl) ?_
      have hR11 : Ok 194 (R x0 15) 11344 := hSh x0 12 15 11344 hx0.1 rfl
      refine x_getR C S KX12 hx0 15 (by decide) rfl rfl fl_RX12_100 hR11 dX12_keeps_20 ?_
      refine lv_iload_n hx hb dX12_keeps_23 rfl (lv_at hl 1 rfl) ?_
      refine lv_bipush (v := (84 : Int32)) hx hb dX12_keeps_24 (by decide) ?_
      refine lv_isub hx hb dX12_keeps_26 ?_
      refine lv_aload_n hx hb dX12_keeps_27 rfl (lv_at hl 0 rfl) ?_
      have hR12 : Ok 194 (R x0 15) 11344 := hSh x0 12 15 11344 hx0.1 rfl
      refine x_getR C S KX12 hx0 15 (by decide) rfl rfl fl_RX12_100 hR12 dX12_keeps_28 ?_
      refine lv_iload_n hx hb dX12_keeps_31 rfl (lv_at hl 1 rfl) ?_
      obtain ⟨hi13, h⟩ := ck_el h
      refine x_iald (len := 1344) C S (by decide) hR12 hi13 dX12_keeps_32 ?_
      obtain ⟨hi14, h⟩ := ck_el h
      obtain ⟨σ15, hs15, h⟩ := sq_el h
      refine x_iast (len := 1344) C S (by decide) hR11 hi14 dX12_keeps_33 hs15 (fun H locs S => ?_)
      refine lv_iinc (v := x1 + 1) (lv' := [(1, .int (x1 + 1)), (0, .ref (gb g + x0))]) hx hb dX12_keeps_34 hl (k := 1) rfl rfl (by decide) rfl (fun ls hl => ?_)
      refine lv_goto (tgt := 12) hx hb dX12_keeps_37 (by decide) ?_
      exact ih σ15 x0 (x1 + 1) h hx0 H locs ls S (lv_sub hl [1, 0] rfl)
set_option maxHeartbeats 4000000 in
set_option maxRecDepth 100000 in
theorem ok_X12_keeps {l : Launch} {g : GL} {R : Nat → Nat → Nat} {L : Nat → Nat → Int64} {N : Nat} {σ : SI} {x0 : Nat} {r : (Unit × SI)} (h : f_X12_keeps N R σ x0 = some r) (hSh : ShR R) (hx0 : Ok 194 x0 12) : Ct l g 1 yX12_keeps cX12_keeps 2 none 194 194 0 0 [.ref (gb g + x0)] (mkS σ R L) (PV R L r) := by
  refine Met.ofW (cc := cX12_keeps) (maxL := 2) (ret := none) (by decide) rfl ?_
  intro p e s m args below meth c s₁ B hml hv
  obtain ⟨rfl, hE, hLo, hWd⟩ := hv
  have hr : meth.sig.returnType = none := B.returns
  have C : Cx l g p s m meth c cX12_keeps 2 RX12 := ⟨B.exec, B.bytes, hml, findClass_of_methodNamed B.named, hE, hLo, B.notSynchronized⟩
  have S : S2 g s σ R L s.heap [] := ⟨hWd, va_S.rf⟩
  have hx := C.1
  have hb := C.2.1
  have hl := lv_entry ([.ref (gb g + x0)]) (n := 2) (Nat.le_of_ble_eq_true rfl)
  rw [lg_entry_eq]
  generalize (lg_sl ([.ref (gb g + x0)]) ++ List.replicate (2 - (lg_sl ([.ref (gb g + x0)])).length) Slot.unset).toArray = ls at hl ⊢
  have hl : lv_has ls 2 [(0, .ref (gb g + x0))] := hl
  generalize hH : s.heap = H at S ⊢
  generalize hlc : ([] : List Loc) = locs at S ⊢
  rw [f_X12_keeps] at h
  refine lv_aload_n hx hb dX12_keeps_0 rfl (lv_at hl 0 rfl) ?_
  refine x_getI C S KX12 hx0 16 (by decide) rfl rfl fl_RX12_189 dX12_keeps_1 ?_
  refine lv_bipush (v := (16 : Int32)) hx hb dX12_keeps_4 (by decide) ?_
  refine lv_icmp_ne (tgt := 50) hx hb dX12_keeps_6 (by decide) (fun c1 => ?_) (fun c1 => ?_)
  · have h := it_n c1 h
    exact w_X12_keeps_50 C hr hSh σ x0 h hx0 H locs ls S (lv_sub hl [0] rfl)
  · have h := it_p c1 h
    refine lv_bipush (v := (84 : Int32)) hx hb dX12_keeps_9 (by decide) ?_
    refine lv_istore_n (lv' := [(1, .int (84 : Int32)), (0, .ref (gb g + x0))]) hx hb dX12_keeps_11 rfl hl (by decide) rfl (fun ls hl => ?_)
    exact w_X12_keeps_12 C hr hSh N σ x0 (84 : Int32) h hx0 H locs ls S (lv_sub hl [1, 0] rfl)
theorem dX12_undo_0 : decode cX12_undo 0 = .ok (.aload_n 0, 1) := by decide +kernel
theorem dX12_undo_1 : decode cX12_undo 1 = .ok (.iconst 0, 1) := by decide +kernel
theorem dX12_undo_2 : decode cX12_undo 2 = .ok (.putfield 3, 3) := by decide +kernel
theorem dX12_undo_5 : decode cX12_undo 5 = .ok (.aload_n 0, 1) := by decide +kernel
theorem dX12_undo_6 : decode cX12_undo 6 = .ok (.getfield 189, 3) := by decide +kernel
theorem dX12_undo_9 : decode cX12_undo 9 = .ok (.ifCond .ne 5, 3) := by decide +kernel
theorem dX12_undo_12 : decode cX12_undo 12 = .ok (.iconst (-1), 1) := by decide +kernel
theorem dX12_undo_13 : decode cX12_undo 13 = .ok (.ireturn, 1) := by decide +kernel
theorem dX12_undo_14 : decode cX12_undo 14 = .ok (.aload_n 0, 1) := by decide +kernel
theorem dX12_undo_15 : decode cX12_undo 15 = .ok (.dup, 1) := by decide +kernel
theorem dX12_undo_16 : decode cX12_undo 16 = .ok (.getfield 189, 3) := by decide +kernel
theorem dX12_undo_19 : decode cX12_undo 19 = .ok (.iconst 1, 1) := by decide +kernel
theorem dX12_undo_20 : decode cX12_undo 20 = .ok (.isub, 1) := by decide +kernel
theorem dX12_undo_21 : decode cX12_undo 21 = .ok (.putfield 189, 3) := by decide +kernel
theorem dX12_undo_24 : decode cX12_undo 24 = .ok (.iconst 0, 1) := by decide +kernel
theorem dX12_undo_25 : decode cX12_undo 25 = .ok (.istore_n 1, 1) := by decide +kernel
theorem dX12_undo_26 : decode cX12_undo 26 = .ok (.iload_n 1, 1) := by decide +kernel
theorem dX12_undo_27 : decode cX12_undo 27 = .ok (.bipush 84, 2) := by decide +kernel
theorem dX12_undo_29 : decode cX12_undo 29 = .ok (.if_icmp .ge 29, 3) := by decide +kernel
theorem dX12_undo_32 : decode cX12_undo 32 = .ok (.aload_n 0, 1) := by decide +kernel
theorem dX12_undo_33 : decode cX12_undo 33 = .ok (.getfield 94, 3) := by decide +kernel
theorem dX12_undo_36 : decode cX12_undo 36 = .ok (.iload_n 1, 1) := by decide +kernel
theorem dX12_undo_37 : decode cX12_undo 37 = .ok (.aload_n 0, 1) := by decide +kernel
theorem dX12_undo_38 : decode cX12_undo 38 = .ok (.getfield 100, 3) := by decide +kernel
theorem dX12_undo_41 : decode cX12_undo 41 = .ok (.bipush 84, 2) := by decide +kernel
theorem dX12_undo_43 : decode cX12_undo 43 = .ok (.aload_n 0, 1) := by decide +kernel
theorem dX12_undo_44 : decode cX12_undo 44 = .ok (.getfield 189, 3) := by decide +kernel
theorem dX12_undo_47 : decode cX12_undo 47 = .ok (.imul, 1) := by decide +kernel
theorem dX12_undo_48 : decode cX12_undo 48 = .ok (.iload_n 1, 1) := by decide +kernel
theorem dX12_undo_49 : decode cX12_undo 49 = .ok (.iadd, 1) := by decide +kernel
theorem dX12_undo_50 : decode cX12_undo 50 = .ok (.iaload, 1) := by decide +kernel
theorem dX12_undo_51 : decode cX12_undo 51 = .ok (.iastore, 1) := by decide +kernel
theorem dX12_undo_52 : decode cX12_undo 52 = .ok (.iinc 1 1, 3) := by decide +kernel
theorem dX12_undo_55 : decode cX12_undo 55 = .ok (.goto (-29), 3) := by decide +kernel
theorem dX12_undo_58 : decode cX12_undo 58 = .ok (.aload_n 0, 1) := by decide +kernel
theorem dX12_undo_59 : decode cX12_undo 59 = .ok (.getfield 189, 3) := by decide +kernel
theorem dX12_undo_62 : decode cX12_undo 62 = .ok (.ireturn, 1) := by decide +kernel
def f_X12_undo_26 (N : Nat) (R : Nat → Nat → Nat) : Nat → SI → Nat → Int32 → Option (Int32 × SI)
  | 0, _, _, _ => none
  | n + 1, σ, x0, x1 => if (84 : Int32) ≤ x1 then (some (σ x0 16, σ)) else (ck (((84 : Int32) * (σ x0 16)) + x1) 1344 (ck x1 84 (sq (up σ (R x0 13) x1.toNatClampNeg (σ (R x0 15) (((84 : Int32) * (σ x0 16)) + x1).toNatClampNeg)) (fun σ9 => f_X12_undo_26 N R n σ9 x0 (x1 + 1)))))
def f_X12_undo (N : Nat) (R : Nat → Nat → Nat) (σ : SI) (x0 : Nat) : Option (Int32 × SI) := sq (up σ x0 0 (0 : Int32)) (fun σ1 => if (σ1 x0 16) = 0 then (some ((-1 : Int32), σ1)) else (sq (up σ1 x0 16 ((σ1 x0 16) - (1 : Int32))) (fun σ3 => f_X12_undo_26 N R N σ3 x0 (0 : Int32))))
set_option maxHeartbeats 4000000 in
set_option maxRecDepth 100000 in
theorem w_X12_undo_26 {l : Launch} {g : GL} {p : Program} {e : Jvm.Env} {s : State} {m : MethodId} {args : Array Value} {below : List Frame} {meth : Method} {c : Code} {R : Nat → Nat → Nat} {L : Nat → Nat → Int64} {r : (Int32 × SI)} {N : Nat} (C : Cx l g p s m meth c cX12_undo 2 RX12) (hr : meth.sig.returnType = (some .int)) (hSh : ShR R) : ∀ (n : Nat) (σ : SI) (x0 : Nat) (x1 : Int32), f_X12_undo_26 N R n σ x0 x1 = some r → Ok 194 x0 12 → ∀ (H : Heap) (locs : List Loc) (ls : Array Slot), S2 g s σ R L H locs → lv_has ls 2 [(0, .ref (gb g + x0)), (1, .int x1)] → W p l e (rmd 1 0 0) s m args below meth c H locs 0 0 (MQ below (Qg g 194 (PI R L r)) args s 0 0 (gA g)) (F0 m 26 ls []) := by
  have hx := C.1
  have hb := C.2.1
  intro n
  induction n with
  | zero =>
    intro σ x0 x1 h
    cases (show (none : Option (Int32 × SI)) = some r from h)
  | succ n ih =>
    intro σ x0 x1 h hx0 H locs ls S hl
    rw [f_X12_undo_26] at h
    refine lv_iload_n hx hb dX12_undo_26 rfl (lv_at hl 1 rfl) ?_
    refine lv_bipush (v := (84 : Int32)) hx hb dX12_undo_27 (by decide) ?_
    refine lv_icmp_ge (tgt := 58) hx hb dX12_undo_29 (by decide) (fun c4 => ?_) (fun c4 => ?_)
    · have h := it_p c4 h
      refine lv_aload_n hx hb dX12_undo_58 rfl (lv_at hl 0 rfl) ?_
      refine x_getI C S KX12 hx0 16 (by decide) rfl rfl fl_RX12_189 dX12_undo_59 ?_
      exact x_iret C S hr h dX12_undo_62
    · have h := it_n c4 h
      refine lv_aload_n hx hb dX12_undo_32 rfl (lv_at hl 0 rfl) ?_
      have hR5 : Ok 194 (R x0 13) 10084 := hSh x0 12 13 10084 hx0.1 rfl
      refine x_getR C S KX12 hx0 13 (by decide) rfl rfl fl_RX12_94 hR5 dX12_undo_33 ?_
      refine lv_iload_n hx hb dX12_undo_36 rfl (lv_at hl 1 rfl) ?_
      refine lv_aload_n hx hb dX12_undo_37 rfl (lv_at hl 0 rfl) ?_
      have hR6 : Ok 194 (R x0 15) 11344 := hSh x0 12 15 11344 hx0.1 rfl
      refine x_getR C S KX12 hx0 15 (by decide) rfl rfl fl_RX12_100 hR6 dX12_undo_38 ?_
      refine lv_bipush (v := (84 : Int32)) hx hb dX12_undo_41 (by decide) ?_
      refine lv_aload_n hx hb dX12_undo_43 rfl (lv_at hl 0 rfl) ?_
      refine x_getI C S KX12 hx0 16 (by decide) rfl rfl fl_RX12_189 dX12_undo_44 ?_
      refine lv_imul hx hb dX12_undo_47 ?_
      refine lv_iload_n hx hb dX12_undo_48 rfl (lv_at hl 1 rfl) ?_
      refine lv_iadd hx hb dX12_undo_49 ?_
      obtain ⟨hi7, h⟩ := ck_el h
      refine x_iald (len := 1344) C S (by decide) hR6 hi7 dX12_undo_50 ?_
      obtain ⟨hi8, h⟩ := ck_el h
      obtain ⟨σ9, hs9, h⟩ := sq_el h
      refine x_iast (len := 84) C S (by decide) hR5 hi8 dX12_undo_51 hs9 (fun H locs S => ?_)
      refine lv_iinc (v := x1 + 1) (lv' := [(1, .int (x1 + 1)), (0, .ref (gb g + x0))]) hx hb dX12_undo_52 hl (k := 1) rfl rfl (by decide) rfl (fun ls hl => ?_)
      refine lv_goto (tgt := 26) hx hb dX12_undo_55 (by decide) ?_
      exact ih σ9 x0 (x1 + 1) h hx0 H locs ls S (lv_sub hl [1, 0] rfl)
set_option maxHeartbeats 4000000 in
set_option maxRecDepth 100000 in
theorem ok_X12_undo {l : Launch} {g : GL} {R : Nat → Nat → Nat} {L : Nat → Nat → Int64} {N : Nat} {σ : SI} {x0 : Nat} {r : (Int32 × SI)} (h : f_X12_undo N R σ x0 = some r) (hSh : ShR R) (hx0 : Ok 194 x0 12) : Ct l g 1 yX12_undo cX12_undo 2 (some .int) 194 194 0 0 [.ref (gb g + x0)] (mkS σ R L) (PI R L r) := by
  refine Met.ofW (cc := cX12_undo) (maxL := 2) (ret := (some .int)) (by decide) rfl ?_
  intro p e s m args below meth c s₁ B hml hv
  obtain ⟨rfl, hE, hLo, hWd⟩ := hv
  have hr : meth.sig.returnType = (some .int) := B.returns
  have C : Cx l g p s m meth c cX12_undo 2 RX12 := ⟨B.exec, B.bytes, hml, findClass_of_methodNamed B.named, hE, hLo, B.notSynchronized⟩
  have S : S2 g s σ R L s.heap [] := ⟨hWd, va_S.rf⟩
  have hx := C.1
  have hb := C.2.1
  have hl := lv_entry ([.ref (gb g + x0)]) (n := 2) (Nat.le_of_ble_eq_true rfl)
  rw [lg_entry_eq]
  generalize (lg_sl ([.ref (gb g + x0)]) ++ List.replicate (2 - (lg_sl ([.ref (gb g + x0)])).length) Slot.unset).toArray = ls at hl ⊢
  have hl : lv_has ls 2 [(0, .ref (gb g + x0))] := hl
  generalize hH : s.heap = H at S ⊢
  generalize hlc : ([] : List Loc) = locs at S ⊢
  rw [f_X12_undo] at h
  refine lv_aload_n hx hb dX12_undo_0 rfl (lv_at hl 0 rfl) ?_
  refine lv_iconst (v := (0 : Int32)) hx hb dX12_undo_1 (by decide) ?_
  obtain ⟨σ1, hs1, h⟩ := sq_el h
  refine x_putI C S KX12 hx0 0 (by decide) rfl rfl rfl ⟨rfl, rfl⟩ fl_RX12_3 dX12_undo_2 hs1 (fun H locs S => ?_)
  refine lv_aload_n hx hb dX12_undo_5 rfl (lv_at hl 0 rfl) ?_
  refine x_getI C S KX12 hx0 16 (by decide) rfl rfl fl_RX12_189 dX12_undo_6 ?_
  refine lv_if_ne (tgt := 14) hx hb dX12_undo_9 (by decide) (fun c2 => ?_) (fun c2 => ?_)
  · have h := it_n c2 h
    refine lv_aload_n hx hb dX12_undo_14 rfl (lv_at hl 0 rfl) ?_
    refine lv_dup hx hb dX12_undo_15 rfl ?_
    refine x_getI C S KX12 hx0 16 (by decide) rfl rfl fl_RX12_189 dX12_undo_16 ?_
    refine lv_iconst (v := (1 : Int32)) hx hb dX12_undo_19 (by decide) ?_
    refine lv_isub hx hb dX12_undo_20 ?_
    obtain ⟨σ3, hs3, h⟩ := sq_el h
    refine x_putI C S KX12 hx0 16 (by decide) rfl rfl rfl ⟨rfl, rfl⟩ fl_RX12_189 dX12_undo_21 hs3 (fun H locs S => ?_)
    refine lv_iconst (v := (0 : Int32)) hx hb dX12_undo_24 (by decide) ?_
    refine lv_istore_n (lv' := [(1, .int (0 : Int32)), (0, .ref (gb g + x0))]) hx hb dX12_undo_25 rfl hl (by decide) rfl (fun ls hl => ?_)
    exact w_X12_undo_26 C hr hSh N σ3 x0 (0 : Int32) h hx0 H locs ls S (lv_sub hl [1, 0] rfl)
  · have h := it_p c2 h
    refine lv_iconst (v := (-1 : Int32)) hx hb dX12_undo_12 (by decide) ?_
    exact x_iret C S hr h dX12_undo_13
theorem dX12_undoDepth_0 : decode cX12_undoDepth 0 = .ok (.aload_n 0, 1) := by decide +kernel
theorem dX12_undoDepth_1 : decode cX12_undoDepth 1 = .ok (.iconst 0, 1) := by decide +kernel
theorem dX12_undoDepth_2 : decode cX12_undoDepth 2 = .ok (.putfield 3, 3) := by decide +kernel
theorem dX12_undoDepth_5 : decode cX12_undoDepth 5 = .ok (.aload_n 0, 1) := by decide +kernel
theorem dX12_undoDepth_6 : decode cX12_undoDepth 6 = .ok (.getfield 189, 3) := by decide +kernel
theorem dX12_undoDepth_9 : decode cX12_undoDepth 9 = .ok (.ireturn, 1) := by decide +kernel
def f_X12_undoDepth (N : Nat) (R : Nat → Nat → Nat) (σ : SI) (x0 : Nat) : Option (Int32 × SI) := sq (up σ x0 0 (0 : Int32)) (fun σ1 => some (σ1 x0 16, σ1))
set_option maxHeartbeats 4000000 in
set_option maxRecDepth 100000 in
theorem ok_X12_undoDepth {l : Launch} {g : GL} {R : Nat → Nat → Nat} {L : Nat → Nat → Int64} {N : Nat} {σ : SI} {x0 : Nat} {r : (Int32 × SI)} (h : f_X12_undoDepth N R σ x0 = some r) (hSh : ShR R) (hx0 : Ok 194 x0 12) : Ct l g 1 yX12_undoDepth cX12_undoDepth 1 (some .int) 194 194 0 0 [.ref (gb g + x0)] (mkS σ R L) (PI R L r) := by
  refine Met.ofW (cc := cX12_undoDepth) (maxL := 1) (ret := (some .int)) (by decide) rfl ?_
  intro p e s m args below meth c s₁ B hml hv
  obtain ⟨rfl, hE, hLo, hWd⟩ := hv
  have hr : meth.sig.returnType = (some .int) := B.returns
  have C : Cx l g p s m meth c cX12_undoDepth 1 RX12 := ⟨B.exec, B.bytes, hml, findClass_of_methodNamed B.named, hE, hLo, B.notSynchronized⟩
  have S : S2 g s σ R L s.heap [] := ⟨hWd, va_S.rf⟩
  have hx := C.1
  have hb := C.2.1
  have hl := lv_entry ([.ref (gb g + x0)]) (n := 1) (Nat.le_of_ble_eq_true rfl)
  rw [lg_entry_eq]
  generalize (lg_sl ([.ref (gb g + x0)]) ++ List.replicate (1 - (lg_sl ([.ref (gb g + x0)])).length) Slot.unset).toArray = ls at hl ⊢
  have hl : lv_has ls 1 [(0, .ref (gb g + x0))] := hl
  generalize hH : s.heap = H at S ⊢
  generalize hlc : ([] : List Loc) = locs at S ⊢
  rw [f_X12_undoDepth] at h
  refine lv_aload_n hx hb dX12_undoDepth_0 rfl (lv_at hl 0 rfl) ?_
  refine lv_iconst (v := (0 : Int32)) hx hb dX12_undoDepth_1 (by decide) ?_
  obtain ⟨σ1, hs1, h⟩ := sq_el h
  refine x_putI C S KX12 hx0 0 (by decide) rfl rfl rfl ⟨rfl, rfl⟩ fl_RX12_3 dX12_undoDepth_2 hs1 (fun H locs S => ?_)
  refine lv_aload_n hx hb dX12_undoDepth_5 rfl (lv_at hl 0 rfl) ?_
  refine x_getI C S KX12 hx0 16 (by decide) rfl rfl fl_RX12_189 dX12_undoDepth_6 ?_
  exact x_iret C S hr h dX12_undoDepth_9
theorem dX12_schedule_0 : decode cX12_schedule 0 = .ok (.aload_n 0, 1) := by decide +kernel
theorem dX12_schedule_1 : decode cX12_schedule 1 = .ok (.iconst 0, 1) := by decide +kernel
theorem dX12_schedule_2 : decode cX12_schedule 2 = .ok (.putfield 3, 3) := by decide +kernel
theorem dX12_schedule_5 : decode cX12_schedule 5 = .ok (.aload_n 0, 1) := by decide +kernel
theorem dX12_schedule_6 : decode cX12_schedule 6 = .ok (.iload_n 1, 1) := by decide +kernel
theorem dX12_schedule_7 : decode cX12_schedule 7 = .ok (.invokevirtual 198, 3) := by decide +kernel
theorem dX12_schedule_10 : decode cX12_schedule 10 = .ok (.ifCond .ne 41, 3) := by decide +kernel
theorem dX12_schedule_13 : decode cX12_schedule 13 = .ok (.aload_n 0, 1) := by decide +kernel
theorem dX12_schedule_14 : decode cX12_schedule 14 = .ok (.iload_n 2, 1) := by decide +kernel
theorem dX12_schedule_15 : decode cX12_schedule 15 = .ok (.invokevirtual 296, 3) := by decide +kernel
theorem dX12_schedule_18 : decode cX12_schedule 18 = .ok (.ifCond .ne 33, 3) := by decide +kernel
theorem dX12_schedule_21 : decode cX12_schedule 21 = .ok (.aload_n 0, 1) := by decide +kernel
theorem dX12_schedule_22 : decode cX12_schedule 22 = .ok (.aload_n 0, 1) := by decide +kernel
theorem dX12_schedule_23 : decode cX12_schedule 23 = .ok (.iload_n 1, 1) := by decide +kernel
theorem dX12_schedule_24 : decode cX12_schedule 24 = .ok (.invokevirtual 293, 3) := by decide +kernel
theorem dX12_schedule_27 : decode cX12_schedule 27 = .ok (.ifCond .ne 12, 3) := by decide +kernel
theorem dX12_schedule_30 : decode cX12_schedule 30 = .ok (.aload_n 0, 1) := by decide +kernel
theorem dX12_schedule_31 : decode cX12_schedule 31 = .ok (.iload_n 1, 1) := by decide +kernel
theorem dX12_schedule_32 : decode cX12_schedule 32 = .ok (.iload_n 2, 1) := by decide +kernel
theorem dX12_schedule_33 : decode cX12_schedule 33 = .ok (.invokevirtual 299, 3) := by decide +kernel
theorem dX12_schedule_36 : decode cX12_schedule 36 = .ok (.ifCond .eq 7, 3) := by decide +kernel
theorem dX12_schedule_39 : decode cX12_schedule 39 = .ok (.iconst 1, 1) := by decide +kernel
theorem dX12_schedule_40 : decode cX12_schedule 40 = .ok (.goto 4, 3) := by decide +kernel
theorem dX12_schedule_43 : decode cX12_schedule 43 = .ok (.iconst 0, 1) := by decide +kernel
theorem dX12_schedule_44 : decode cX12_schedule 44 = .ok (.iconst 3, 1) := by decide +kernel
theorem dX12_schedule_45 : decode cX12_schedule 45 = .ok (.invokevirtual 185, 3) := by decide +kernel
theorem dX12_schedule_48 : decode cX12_schedule 48 = .ok (.ifCond .eq 5, 3) := by decide +kernel
theorem dX12_schedule_51 : decode cX12_schedule 51 = .ok (.iconst 0, 1) := by decide +kernel
theorem dX12_schedule_52 : decode cX12_schedule 52 = .ok (.ireturn, 1) := by decide +kernel
theorem dX12_schedule_53 : decode cX12_schedule 53 = .ok (.aload_n 0, 1) := by decide +kernel
theorem dX12_schedule_54 : decode cX12_schedule 54 = .ok (.invokevirtual 311, 3) := by decide +kernel
theorem dX12_schedule_57 : decode cX12_schedule 57 = .ok (.aload_n 0, 1) := by decide +kernel
theorem dX12_schedule_58 : decode cX12_schedule 58 = .ok (.iload_n 1, 1) := by decide +kernel
theorem dX12_schedule_59 : decode cX12_schedule 59 = .ok (.invokevirtual 281, 3) := by decide +kernel
theorem dX12_schedule_62 : decode cX12_schedule 62 = .ok (.istore_n 3, 1) := by decide +kernel
theorem dX12_schedule_63 : decode cX12_schedule 63 = .ok (.aload_n 0, 1) := by decide +kernel
theorem dX12_schedule_64 : decode cX12_schedule 64 = .ok (.getfield 94, 3) := by decide +kernel
theorem dX12_schedule_67 : decode cX12_schedule 67 = .ok (.bipush 14, 2) := by decide +kernel
theorem dX12_schedule_69 : decode cX12_schedule 69 = .ok (.iload_n 1, 1) := by decide +kernel
theorem dX12_schedule_70 : decode cX12_schedule 70 = .ok (.imul, 1) := by decide +kernel
theorem dX12_schedule_71 : decode cX12_schedule 71 = .ok (.iconst 0, 1) := by decide +kernel
theorem dX12_schedule_72 : decode cX12_schedule 72 = .ok (.iadd, 1) := by decide +kernel
theorem dX12_schedule_73 : decode cX12_schedule 73 = .ok (.iload_n 2, 1) := by decide +kernel
theorem dX12_schedule_74 : decode cX12_schedule 74 = .ok (.iastore, 1) := by decide +kernel
theorem dX12_schedule_75 : decode cX12_schedule 75 = .ok (.iload_n 3, 1) := by decide +kernel
theorem dX12_schedule_76 : decode cX12_schedule 76 = .ok (.ireturn, 1) := by decide +kernel
def f_X12_schedule (N : Nat) (R : Nat → Nat → Nat) (σ : SI) (x0 : Nat) (x1 : Int32) (x2 : Int32) : Option (Int32 × SI) := sq (up σ x0 0 (0 : Int32)) (fun σ1 => bd (f_X12_noBlast N R σ1 x0 x1) (fun a2 σ2 => if a2 = 0 then (bd (f_X12_noMinute N R σ2 x0 x2) (fun a4 σ4 => if a4 = 0 then (bd (f_X12_hasFired N R σ4 x0 x1) (fun a6 σ6 => if a6 = 0 then (bd (f_X12_why N R σ6 x0 x1 x2) (fun a15 σ15 => if a15 = 0 then (bd (f_X12_throwsIf N R σ15 x0 (0 : Int32) (3 : Int32)) (fun a17 σ17 => if a17 = 0 then (bd (f_X12_keeps N R σ17 x0) (fun _ σ19 => bd (f_X12_time N R σ19 x0 x1) (fun a20 σ20 => ck (((14 : Int32) * x1) + (0 : Int32)) 84 (sq (up σ20 (R x0 13) (((14 : Int32) * x1) + (0 : Int32)).toNatClampNeg x2) (fun σ23 => some (a20, σ23)))))) else (some ((0 : Int32), σ17)))) else (bd (f_X12_throwsIf N R σ15 x0 (1 : Int32) (3 : Int32)) (fun a24 σ24 => if a24 = 0 then (bd (f_X12_keeps N R σ24 x0) (fun _ σ26 => bd (f_X12_time N R σ26 x0 x1) (fun a27 σ27 => ck (((14 : Int32) * x1) + (0 : Int32)) 84 (sq (up σ27 (R x0 13) (((14 : Int32) * x1) + (0 : Int32)).toNatClampNeg x2) (fun σ30 => some (a27, σ30)))))) else (some ((0 : Int32), σ24)))))) else (bd (f_X12_throwsIf N R σ6 x0 (1 : Int32) (3 : Int32)) (fun a8 σ8 => if a8 = 0 then (bd (f_X12_keeps N R σ8 x0) (fun _ σ10 => bd (f_X12_time N R σ10 x0 x1) (fun a11 σ11 => ck (((14 : Int32) * x1) + (0 : Int32)) 84 (sq (up σ11 (R x0 13) (((14 : Int32) * x1) + (0 : Int32)).toNatClampNeg x2) (fun σ14 => some (a11, σ14)))))) else (some ((0 : Int32), σ8)))))) else (some ((0 : Int32), σ4)))) else (some ((0 : Int32), σ2))))
set_option maxHeartbeats 4000000 in
set_option maxRecDepth 100000 in
theorem ok_X12_schedule {l : Launch} {g : GL} {R : Nat → Nat → Nat} {L : Nat → Nat → Int64} {N : Nat} {σ : SI} {x0 : Nat} {x1 : Int32} {x2 : Int32} {r : (Int32 × SI)} (h : f_X12_schedule N R σ x0 x1 x2 = some r) (hSh : ShR R) (hx0 : Ok 194 x0 12) : Ct l g 9 yX12_schedule cX12_schedule 4 (some .int) 194 194 0 0 [.ref (gb g + x0), .int x1, .int x2] (mkS σ R L) (PI R L r) := by
  refine Met.ofW (cc := cX12_schedule) (maxL := 4) (ret := (some .int)) (by decide) rfl ?_
  intro p e s m args below meth c s₁ B hml hv
  obtain ⟨rfl, hE, hLo, hWd⟩ := hv
  have hr : meth.sig.returnType = (some .int) := B.returns
  have C : Cx l g p s m meth c cX12_schedule 4 RX12 := ⟨B.exec, B.bytes, hml, findClass_of_methodNamed B.named, hE, hLo, B.notSynchronized⟩
  have S : S2 g s σ R L s.heap [] := ⟨hWd, va_S.rf⟩
  have hx := C.1
  have hb := C.2.1
  have hl := lv_entry ([.ref (gb g + x0), .int x1, .int x2]) (n := 4) (Nat.le_of_ble_eq_true rfl)
  rw [lg_entry_eq]
  generalize (lg_sl ([.ref (gb g + x0), .int x1, .int x2]) ++ List.replicate (4 - (lg_sl ([.ref (gb g + x0), .int x1, .int x2])).length) Slot.unset).toArray = ls at hl ⊢
  have hl : lv_has ls 4 [(0, .ref (gb g + x0)), (1, .int x1), (2, .int x2)] := hl
  generalize hH : s.heap = H at S ⊢
  generalize hlc : ([] : List Loc) = locs at S ⊢
  rw [f_X12_schedule] at h
  refine lv_aload_n hx hb dX12_schedule_0 rfl (lv_at hl 0 rfl) ?_
  refine lv_iconst (v := (0 : Int32)) hx hb dX12_schedule_1 (by decide) ?_
  obtain ⟨σ1, hs1, h⟩ := sq_el h
  refine x_putI C S KX12 hx0 0 (by decide) rfl rfl rfl ⟨rfl, rfl⟩ fl_RX12_3 dX12_schedule_2 hs1 (fun H locs S => ?_)
  refine lv_aload_n hx hb dX12_schedule_5 rfl (lv_at hl 0 rfl) ?_
  refine lv_iload_n hx hb dX12_schedule_6 rfl (lv_at hl 1 rfl) ?_
  obtain ⟨a2, σ2, hc2, h⟩ := bd_el h
  refine x_callVI C S KX12 hx0 (ok_X12_noBlast (L := L) hc2 hSh hx0) ⟨cd_X12_noBlast, ni_RX12, ml_RX12_198, in_X12_noBlast, sl_X12_noBlast⟩ ⟨by decide, by decide⟩ rfl ⟨by decide, by decide⟩ hl.1 rfl (Nat.le_of_ble_eq_true rfl) ⟨by decide, by decide⟩ dX12_schedule_7 (fun H locs S => ?_)
  refine lv_if_ne (tgt := 51) hx hb dX12_schedule_10 (by decide) (fun c3 => ?_) (fun c3 => ?_)
  · have h := it_n c3 h
    refine lv_iconst (v := (0 : Int32)) hx hb dX12_schedule_51 (by decide) ?_
    exact x_iret C S hr h dX12_schedule_52
  · have h := it_p c3 h
    refine lv_aload_n hx hb dX12_schedule_13 rfl (lv_at hl 0 rfl) ?_
    refine lv_iload_n hx hb dX12_schedule_14 rfl (lv_at hl 2 rfl) ?_
    obtain ⟨a4, σ4, hc4, h⟩ := bd_el h
    refine x_callVI C S KX12 hx0 (ok_X12_noMinute (L := L) hc4 hSh hx0) ⟨cd_X12_noMinute, ni_RX12, ml_RX12_296, in_X12_noMinute, sl_X12_noMinute⟩ ⟨by decide, by decide⟩ rfl ⟨by decide, by decide⟩ hl.1 rfl (Nat.le_of_ble_eq_true rfl) ⟨by decide, by decide⟩ dX12_schedule_15 (fun H locs S => ?_)
    refine lv_if_ne (tgt := 51) hx hb dX12_schedule_18 (by decide) (fun c5 => ?_) (fun c5 => ?_)
    · have h := it_n c5 h
      refine lv_iconst (v := (0 : Int32)) hx hb dX12_schedule_51 (by decide) ?_
      exact x_iret C S hr h dX12_schedule_52
    · have h := it_p c5 h
      refine lv_aload_n hx hb dX12_schedule_21 rfl (lv_at hl 0 rfl) ?_
      refine lv_aload_n hx hb dX12_schedule_22 rfl (lv_at hl 0 rfl) ?_
      refine lv_iload_n hx hb dX12_schedule_23 rfl (lv_at hl 1 rfl) ?_
      obtain ⟨a6, σ6, hc6, h⟩ := bd_el h
      refine x_callVI C S KX12 hx0 (ok_X12_hasFired (L := L) hc6 hSh hx0) ⟨cd_X12_hasFired, ni_RX12, ml_RX12_293, in_X12_hasFired, sl_X12_hasFired⟩ ⟨by decide, by decide⟩ rfl ⟨by decide, by decide⟩ hl.1 rfl (Nat.le_of_ble_eq_true rfl) ⟨by decide, by decide⟩ dX12_schedule_24 (fun H locs S => ?_)
      refine lv_if_ne (tgt := 39) hx hb dX12_schedule_27 (by decide) (fun c7 => ?_) (fun c7 => ?_)
      · have h := it_n c7 h
        refine lv_iconst (v := (1 : Int32)) hx hb dX12_schedule_39 (by decide) ?_
        refine lv_goto (tgt := 44) hx hb dX12_schedule_40 (by decide) ?_
        refine lv_iconst (v := (3 : Int32)) hx hb dX12_schedule_44 (by decide) ?_
        obtain ⟨a8, σ8, hc8, h⟩ := bd_el h
        refine x_callVI C S KX12 hx0 (ok_X12_throwsIf (L := L) hc8 hSh hx0) ⟨cd_X12_throwsIf, ni_RX12, ml_RX12_185, in_X12_throwsIf, sl_X12_throwsIf⟩ ⟨by decide, by decide⟩ rfl ⟨by decide, by decide⟩ hl.1 rfl (Nat.le_of_ble_eq_true rfl) ⟨by decide, by decide⟩ dX12_schedule_45 (fun H locs S => ?_)
        refine lv_if_eq (tgt := 53) hx hb dX12_schedule_48 (by decide) (fun c9 => ?_) (fun c9 => ?_)
        · have h := it_p c9 h
          refine lv_aload_n hx hb dX12_schedule_53 rfl (lv_at hl 0 rfl) ?_
          obtain ⟨a10, σ10, hc10, h⟩ := bd_el h
          refine x_callVV C S KX12 hx0 (ok_X12_keeps (L := L) hc10 hSh hx0) ⟨cd_X12_keeps, ni_RX12, ml_RX12_311, in_X12_keeps, sl_X12_keeps⟩ ⟨by decide, by decide⟩ rfl ⟨by decide, by decide⟩ hl.1 rfl (Nat.le_of_ble_eq_true rfl) ⟨by decide, by decide⟩ dX12_schedule_54 (fun H locs S => ?_)
          refine lv_aload_n hx hb dX12_schedule_57 rfl (lv_at hl 0 rfl) ?_
          refine lv_iload_n hx hb dX12_schedule_58 rfl (lv_at hl 1 rfl) ?_
          obtain ⟨a11, σ11, hc11, h⟩ := bd_el h
          refine x_callVI C S KX12 hx0 (ok_X12_time (L := L) hc11 hSh hx0) ⟨cd_X12_time, ni_RX12, ml_RX12_281, in_X12_time, sl_X12_time⟩ ⟨by decide, by decide⟩ rfl ⟨by decide, by decide⟩ hl.1 rfl (Nat.le_of_ble_eq_true rfl) ⟨by decide, by decide⟩ dX12_schedule_59 (fun H locs S => ?_)
          refine lv_istore_n (lv' := [(3, .int a11), (0, .ref (gb g + x0)), (1, .int x1), (2, .int x2)]) hx hb dX12_schedule_62 rfl hl (by decide) rfl (fun ls hl => ?_)
          refine lv_aload_n hx hb dX12_schedule_63 rfl (lv_at hl 1 rfl) ?_
          have hR12 : Ok 194 (R x0 13) 10084 := hSh x0 12 13 10084 hx0.1 rfl
          refine x_getR C S KX12 hx0 13 (by decide) rfl rfl fl_RX12_94 hR12 dX12_schedule_64 ?_
          refine lv_bipush (v := (14 : Int32)) hx hb dX12_schedule_67 (by decide) ?_
          refine lv_iload_n hx hb dX12_schedule_69 rfl (lv_at hl 2 rfl) ?_
          refine lv_imul hx hb dX12_schedule_70 ?_
          refine lv_iconst (v := (0 : Int32)) hx hb dX12_schedule_71 (by decide) ?_
          refine lv_iadd hx hb dX12_schedule_72 ?_
          refine lv_iload_n hx hb dX12_schedule_73 rfl (lv_at hl 3 rfl) ?_
          obtain ⟨hi13, h⟩ := ck_el h
          obtain ⟨σ14, hs14, h⟩ := sq_el h
          refine x_iast (len := 84) C S (by decide) hR12 hi13 dX12_schedule_74 hs14 (fun H locs S => ?_)
          refine lv_iload_n hx hb dX12_schedule_75 rfl (lv_at hl 0 rfl) ?_
          exact x_iret C S hr h dX12_schedule_76
        · have h := it_n c9 h
          refine lv_iconst (v := (0 : Int32)) hx hb dX12_schedule_51 (by decide) ?_
          exact x_iret C S hr h dX12_schedule_52
      · have h := it_p c7 h
        refine lv_aload_n hx hb dX12_schedule_30 rfl (lv_at hl 0 rfl) ?_
        refine lv_iload_n hx hb dX12_schedule_31 rfl (lv_at hl 1 rfl) ?_
        refine lv_iload_n hx hb dX12_schedule_32 rfl (lv_at hl 2 rfl) ?_
        obtain ⟨a15, σ15, hc15, h⟩ := bd_el h
        refine x_callVI C S KX12 hx0 (ok_X12_why (L := L) hc15 hSh hx0) ⟨cd_X12_why, ni_RX12, ml_RX12_299, in_X12_why, sl_X12_why⟩ ⟨by decide, by decide⟩ rfl ⟨by decide, by decide⟩ hl.1 rfl (Nat.le_of_ble_eq_true rfl) ⟨by decide, by decide⟩ dX12_schedule_33 (fun H locs S => ?_)
        refine lv_if_eq (tgt := 43) hx hb dX12_schedule_36 (by decide) (fun c16 => ?_) (fun c16 => ?_)
        · have h := it_p c16 h
          refine lv_iconst (v := (0 : Int32)) hx hb dX12_schedule_43 (by decide) ?_
          refine lv_iconst (v := (3 : Int32)) hx hb dX12_schedule_44 (by decide) ?_
          obtain ⟨a17, σ17, hc17, h⟩ := bd_el h
          refine x_callVI C S KX12 hx0 (ok_X12_throwsIf (L := L) hc17 hSh hx0) ⟨cd_X12_throwsIf, ni_RX12, ml_RX12_185, in_X12_throwsIf, sl_X12_throwsIf⟩ ⟨by decide, by decide⟩ rfl ⟨by decide, by decide⟩ hl.1 rfl (Nat.le_of_ble_eq_true rfl) ⟨by decide, by decide⟩ dX12_schedule_45 (fun H locs S => ?_)
          refine lv_if_eq (tgt := 53) hx hb dX12_schedule_48 (by decide) (fun c18 => ?_) (fun c18 => ?_)
          · have h := it_p c18 h
            refine lv_aload_n hx hb dX12_schedule_53 rfl (lv_at hl 0 rfl) ?_
            obtain ⟨a19, σ19, hc19, h⟩ := bd_el h
            refine x_callVV C S KX12 hx0 (ok_X12_keeps (L := L) hc19 hSh hx0) ⟨cd_X12_keeps, ni_RX12, ml_RX12_311, in_X12_keeps, sl_X12_keeps⟩ ⟨by decide, by decide⟩ rfl ⟨by decide, by decide⟩ hl.1 rfl (Nat.le_of_ble_eq_true rfl) ⟨by decide, by decide⟩ dX12_schedule_54 (fun H locs S => ?_)
            refine lv_aload_n hx hb dX12_schedule_57 rfl (lv_at hl 0 rfl) ?_
            refine lv_iload_n hx hb dX12_schedule_58 rfl (lv_at hl 1 rfl) ?_
            obtain ⟨a20, σ20, hc20, h⟩ := bd_el h
            refine x_callVI C S KX12 hx0 (ok_X12_time (L := L) hc20 hSh hx0) ⟨cd_X12_time, ni_RX12, ml_RX12_281, in_X12_time, sl_X12_time⟩ ⟨by decide, by decide⟩ rfl ⟨by decide, by decide⟩ hl.1 rfl (Nat.le_of_ble_eq_true rfl) ⟨by decide, by decide⟩ dX12_schedule_59 (fun H locs S => ?_)
            refine lv_istore_n (lv' := [(3, .int a20), (0, .ref (gb g + x0)), (1, .int x1), (2, .int x2)]) hx hb dX12_schedule_62 rfl hl (by decide) rfl (fun ls hl => ?_)
            refine lv_aload_n hx hb dX12_schedule_63 rfl (lv_at hl 1 rfl) ?_
            have hR21 : Ok 194 (R x0 13) 10084 := hSh x0 12 13 10084 hx0.1 rfl
            refine x_getR C S KX12 hx0 13 (by decide) rfl rfl fl_RX12_94 hR21 dX12_schedule_64 ?_
            refine lv_bipush (v := (14 : Int32)) hx hb dX12_schedule_67 (by decide) ?_
            refine lv_iload_n hx hb dX12_schedule_69 rfl (lv_at hl 2 rfl) ?_
            refine lv_imul hx hb dX12_schedule_70 ?_
            refine lv_iconst (v := (0 : Int32)) hx hb dX12_schedule_71 (by decide) ?_
            refine lv_iadd hx hb dX12_schedule_72 ?_
            refine lv_iload_n hx hb dX12_schedule_73 rfl (lv_at hl 3 rfl) ?_
            obtain ⟨hi22, h⟩ := ck_el h
            obtain ⟨σ23, hs23, h⟩ := sq_el h
            refine x_iast (len := 84) C S (by decide) hR21 hi22 dX12_schedule_74 hs23 (fun H locs S => ?_)
            refine lv_iload_n hx hb dX12_schedule_75 rfl (lv_at hl 0 rfl) ?_
            exact x_iret C S hr h dX12_schedule_76
          · have h := it_n c18 h
            refine lv_iconst (v := (0 : Int32)) hx hb dX12_schedule_51 (by decide) ?_
            exact x_iret C S hr h dX12_schedule_52
        · have h := it_n c16 h
          refine lv_iconst (v := (1 : Int32)) hx hb dX12_schedule_39 (by decide) ?_
          refine lv_goto (tgt := 44) hx hb dX12_schedule_40 (by decide) ?_
          refine lv_iconst (v := (3 : Int32)) hx hb dX12_schedule_44 (by decide) ?_
          obtain ⟨a24, σ24, hc24, h⟩ := bd_el h
          refine x_callVI C S KX12 hx0 (ok_X12_throwsIf (L := L) hc24 hSh hx0) ⟨cd_X12_throwsIf, ni_RX12, ml_RX12_185, in_X12_throwsIf, sl_X12_throwsIf⟩ ⟨by decide, by decide⟩ rfl ⟨by decide, by decide⟩ hl.1 rfl (Nat.le_of_ble_eq_true rfl) ⟨by decide, by decide⟩ dX12_schedule_45 (fun H locs S => ?_)
          refine lv_if_eq (tgt := 53) hx hb dX12_schedule_48 (by decide) (fun c25 => ?_) (fun c25 => ?_)
          · have h := it_p c25 h
            refine lv_aload_n hx hb dX12_schedule_53 rfl (lv_at hl 0 rfl) ?_
            obtain ⟨a26, σ26, hc26, h⟩ := bd_el h
            refine x_callVV C S KX12 hx0 (ok_X12_keeps (L := L) hc26 hSh hx0) ⟨cd_X12_keeps, ni_RX12, ml_RX12_311, in_X12_keeps, sl_X12_keeps⟩ ⟨by decide, by decide⟩ rfl ⟨by decide, by decide⟩ hl.1 rfl (Nat.le_of_ble_eq_true rfl) ⟨by decide, by decide⟩ dX12_schedule_54 (fun H locs S => ?_)
            refine lv_aload_n hx hb dX12_schedule_57 rfl (lv_at hl 0 rfl) ?_
            refine lv_iload_n hx hb dX12_schedule_58 rfl (lv_at hl 1 rfl) ?_
            obtain ⟨a27, σ27, hc27, h⟩ := bd_el h
            refine x_callVI C S KX12 hx0 (ok_X12_time (L := L) hc27 hSh hx0) ⟨cd_X12_time, ni_RX12, ml_RX12_281, in_X12_time, sl_X12_time⟩ ⟨by decide, by decide⟩ rfl ⟨by decide, by decide⟩ hl.1 rfl (Nat.le_of_ble_eq_true rfl) ⟨by decide, by decide⟩ dX12_schedule_59 (fun H locs S => ?_)
            refine lv_istore_n (lv' := [(3, .int a27), (0, .ref (gb g + x0)), (1, .int x1), (2, .int x2)]) hx hb dX12_schedule_62 rfl hl (by decide) rfl (fun ls hl => ?_)
            refine lv_aload_n hx hb dX12_schedule_63 rfl (lv_at hl 1 rfl) ?_
            have hR28 : Ok 194 (R x0 13) 10084 := hSh x0 12 13 10084 hx0.1 rfl
            refine x_getR C S KX12 hx0 13 (by decide) rfl rfl fl_RX12_94 hR28 dX12_schedule_64 ?_
            refine lv_bipush (v := (14 : Int32)) hx hb dX12_schedule_67 (by decide) ?_
            refine lv_iload_n hx hb dX12_schedule_69 rfl (lv_at hl 2 rfl) ?_
            refine lv_imul hx hb dX12_schedule_70 ?_
            refine lv_iconst (v := (0 : Int32)) hx hb dX12_schedule_71 (by decide) ?_
            refine lv_iadd hx hb dX12_schedule_72 ?_
            refine lv_iload_n hx hb dX12_schedule_73 rfl (lv_at hl 3 rfl) ?_
            obtain ⟨hi29, h⟩ := ck_el h
            obtain ⟨σ30, hs30, h⟩ := sq_el h
            refine x_iast (len := 84) C S (by decide) hR28 hi29 dX12_schedule_74 hs30 (fun H locs S => ?_)
            refine lv_iload_n hx hb dX12_schedule_75 rfl (lv_at hl 0 rfl) ?_
            exact x_iret C S hr h dX12_schedule_76
          · have h := it_n c25 h
            refine lv_iconst (v := (0 : Int32)) hx hb dX12_schedule_51 (by decide) ?_
            exact x_iret C S hr h dX12_schedule_52
theorem dX12_cancel_0 : decode cX12_cancel 0 = .ok (.aload_n 0, 1) := by decide +kernel
theorem dX12_cancel_1 : decode cX12_cancel 1 = .ok (.iconst 0, 1) := by decide +kernel
theorem dX12_cancel_2 : decode cX12_cancel 2 = .ok (.putfield 3, 3) := by decide +kernel
theorem dX12_cancel_5 : decode cX12_cancel 5 = .ok (.aload_n 0, 1) := by decide +kernel
theorem dX12_cancel_6 : decode cX12_cancel 6 = .ok (.iload_n 1, 1) := by decide +kernel
theorem dX12_cancel_7 : decode cX12_cancel 7 = .ok (.invokevirtual 198, 3) := by decide +kernel
theorem dX12_cancel_10 : decode cX12_cancel 10 = .ok (.ifCond .ne 33, 3) := by decide +kernel
theorem dX12_cancel_13 : decode cX12_cancel 13 = .ok (.aload_n 0, 1) := by decide +kernel
theorem dX12_cancel_14 : decode cX12_cancel 14 = .ok (.aload_n 0, 1) := by decide +kernel
theorem dX12_cancel_15 : decode cX12_cancel 15 = .ok (.iload_n 1, 1) := by decide +kernel
theorem dX12_cancel_16 : decode cX12_cancel 16 = .ok (.invokevirtual 281, 3) := by decide +kernel
theorem dX12_cancel_19 : decode cX12_cancel 19 = .ok (.iconst (-1), 1) := by decide +kernel
theorem dX12_cancel_20 : decode cX12_cancel 20 = .ok (.if_icmp .eq 11, 3) := by decide +kernel
theorem dX12_cancel_23 : decode cX12_cancel 23 = .ok (.aload_n 0, 1) := by decide +kernel
theorem dX12_cancel_24 : decode cX12_cancel 24 = .ok (.iload_n 1, 1) := by decide +kernel
theorem dX12_cancel_25 : decode cX12_cancel 25 = .ok (.invokevirtual 293, 3) := by decide +kernel
theorem dX12_cancel_28 : decode cX12_cancel 28 = .ok (.ifCond .eq 7, 3) := by decide +kernel
theorem dX12_cancel_31 : decode cX12_cancel 31 = .ok (.iconst 1, 1) := by decide +kernel
theorem dX12_cancel_32 : decode cX12_cancel 32 = .ok (.goto 4, 3) := by decide +kernel
theorem dX12_cancel_35 : decode cX12_cancel 35 = .ok (.iconst 0, 1) := by decide +kernel
theorem dX12_cancel_36 : decode cX12_cancel 36 = .ok (.iconst 2, 1) := by decide +kernel
theorem dX12_cancel_37 : decode cX12_cancel 37 = .ok (.invokevirtual 185, 3) := by decide +kernel
theorem dX12_cancel_40 : decode cX12_cancel 40 = .ok (.ifCond .eq 5, 3) := by decide +kernel
theorem dX12_cancel_43 : decode cX12_cancel 43 = .ok (.iconst 0, 1) := by decide +kernel
theorem dX12_cancel_44 : decode cX12_cancel 44 = .ok (.ireturn, 1) := by decide +kernel
theorem dX12_cancel_45 : decode cX12_cancel 45 = .ok (.aload_n 0, 1) := by decide +kernel
theorem dX12_cancel_46 : decode cX12_cancel 46 = .ok (.invokevirtual 311, 3) := by decide +kernel
theorem dX12_cancel_49 : decode cX12_cancel 49 = .ok (.aload_n 0, 1) := by decide +kernel
theorem dX12_cancel_50 : decode cX12_cancel 50 = .ok (.iload_n 1, 1) := by decide +kernel
theorem dX12_cancel_51 : decode cX12_cancel 51 = .ok (.invokevirtual 281, 3) := by decide +kernel
theorem dX12_cancel_54 : decode cX12_cancel 54 = .ok (.istore_n 2, 1) := by decide +kernel
theorem dX12_cancel_55 : decode cX12_cancel 55 = .ok (.aload_n 0, 1) := by decide +kernel
theorem dX12_cancel_56 : decode cX12_cancel 56 = .ok (.getfield 94, 3) := by decide +kernel
theorem dX12_cancel_59 : decode cX12_cancel 59 = .ok (.bipush 14, 2) := by decide +kernel
theorem dX12_cancel_61 : decode cX12_cancel 61 = .ok (.iload_n 1, 1) := by decide +kernel
theorem dX12_cancel_62 : decode cX12_cancel 62 = .ok (.imul, 1) := by decide +kernel
theorem dX12_cancel_63 : decode cX12_cancel 63 = .ok (.iconst 0, 1) := by decide +kernel
theorem dX12_cancel_64 : decode cX12_cancel 64 = .ok (.iadd, 1) := by decide +kernel
theorem dX12_cancel_65 : decode cX12_cancel 65 = .ok (.iconst (-1), 1) := by decide +kernel
theorem dX12_cancel_66 : decode cX12_cancel 66 = .ok (.iastore, 1) := by decide +kernel
theorem dX12_cancel_67 : decode cX12_cancel 67 = .ok (.iload_n 2, 1) := by decide +kernel
theorem dX12_cancel_68 : decode cX12_cancel 68 = .ok (.ireturn, 1) := by decide +kernel
def f_X12_cancel (N : Nat) (R : Nat → Nat → Nat) (σ : SI) (x0 : Nat) (x1 : Int32) : Option (Int32 × SI) := sq (up σ x0 0 (0 : Int32)) (fun σ1 => bd (f_X12_noBlast N R σ1 x0 x1) (fun a2 σ2 => if a2 = 0 then (bd (f_X12_time N R σ2 x0 x1) (fun a4 σ4 => if a4 = (-1 : Int32) then (bd (f_X12_throwsIf N R σ4 x0 (1 : Int32) (2 : Int32)) (fun a6 σ6 => if a6 = 0 then (bd (f_X12_keeps N R σ6 x0) (fun _ σ8 => bd (f_X12_time N R σ8 x0 x1) (fun a9 σ9 => ck (((14 : Int32) * x1) + (0 : Int32)) 84 (sq (up σ9 (R x0 13) (((14 : Int32) * x1) + (0 : Int32)).toNatClampNeg (-1 : Int32)) (fun σ12 => some (a9, σ12)))))) else (some ((0 : Int32), σ6)))) else (bd (f_X12_hasFired N R σ4 x0 x1) (fun a13 σ13 => if a13 = 0 then (bd (f_X12_throwsIf N R σ13 x0 (0 : Int32) (2 : Int32)) (fun a15 σ15 => if a15 = 0 then (bd (f_X12_keeps N R σ15 x0) (fun _ σ17 => bd (f_X12_time N R σ17 x0 x1) (fun a18 σ18 => ck (((14 : Int32) * x1) + (0 : Int32)) 84 (sq (up σ18 (R x0 13) (((14 : Int32) * x1) + (0 : Int32)).toNatClampNeg (-1 : Int32)) (fun σ21 => some (a18, σ21)))))) else (some ((0 : Int32), σ15)))) else (bd (f_X12_throwsIf N R σ13 x0 (1 : Int32) (2 : Int32)) (fun a22 σ22 => if a22 = 0 then (bd (f_X12_keeps N R σ22 x0) (fun _ σ24 => bd (f_X12_time N R σ24 x0 x1) (fun a25 σ25 => ck (((14 : Int32) * x1) + (0 : Int32)) 84 (sq (up σ25 (R x0 13) (((14 : Int32) * x1) + (0 : Int32)).toNatClampNeg (-1 : Int32)) (fun σ28 => some (a25, σ28)))))) else (some ((0 : Int32), σ22)))))))) else (some ((0 : Int32), σ2))))
set_option maxHeartbeats 4000000 in
set_option maxRecDepth 100000 in
theorem ok_X12_cancel {l : Launch} {g : GL} {R : Nat → Nat → Nat} {L : Nat → Nat → Int64} {N : Nat} {σ : SI} {x0 : Nat} {x1 : Int32} {r : (Int32 × SI)} (h : f_X12_cancel N R σ x0 x1 = some r) (hSh : ShR R) (hx0 : Ok 194 x0 12) : Ct l g 3 yX12_cancel cX12_cancel 3 (some .int) 194 194 0 0 [.ref (gb g + x0), .int x1] (mkS σ R L) (PI R L r) := by
  refine Met.ofW (cc := cX12_cancel) (maxL := 3) (ret := (some .int)) (by decide) rfl ?_
  intro p e s m args below meth c s₁ B hml hv
  obtain ⟨rfl, hE, hLo, hWd⟩ := hv
  have hr : meth.sig.returnType = (some .int) := B.returns
  have C : Cx l g p s m meth c cX12_cancel 3 RX12 := ⟨B.exec, B.bytes, hml, findClass_of_methodNamed B.named, hE, hLo, B.notSynchronized⟩
  have S : S2 g s σ R L s.heap [] := ⟨hWd, va_S.rf⟩
  have hx := C.1
  have hb := C.2.1
  have hl := lv_entry ([.ref (gb g + x0), .int x1]) (n := 3) (Nat.le_of_ble_eq_true rfl)
  rw [lg_entry_eq]
  generalize (lg_sl ([.ref (gb g + x0), .int x1]) ++ List.replicate (3 - (lg_sl ([.ref (gb g + x0), .int x1])).length) Slot.unset).toArray = ls at hl ⊢
  have hl : lv_has ls 3 [(0, .ref (gb g + x0)), (1, .int x1)] := hl
  generalize hH : s.heap = H at S ⊢
  generalize hlc : ([] : List Loc) = locs at S ⊢
  rw [f_X12_cancel] at h
  refine lv_aload_n hx hb dX12_cancel_0 rfl (lv_at hl 0 rfl) ?_
  refine lv_iconst (v := (0 : Int32)) hx hb dX12_cancel_1 (by decide) ?_
  obtain ⟨σ1, hs1, h⟩ := sq_el h
  refine x_putI C S KX12 hx0 0 (by decide) rfl rfl rfl ⟨rfl, rfl⟩ fl_RX12_3 dX12_cancel_2 hs1 (fun H locs S => ?_)
  refine lv_aload_n hx hb dX12_cancel_5 rfl (lv_at hl 0 rfl) ?_
  refine lv_iload_n hx hb dX12_cancel_6 rfl (lv_at hl 1 rfl) ?_
  obtain ⟨a2, σ2, hc2, h⟩ := bd_el h
  refine x_callVI C S KX12 hx0 (ok_X12_noBlast (L := L) hc2 hSh hx0) ⟨cd_X12_noBlast, ni_RX12, ml_RX12_198, in_X12_noBlast, sl_X12_noBlast⟩ ⟨by decide, by decide⟩ rfl ⟨by decide, by decide⟩ hl.1 rfl (Nat.le_of_ble_eq_true rfl) ⟨by decide, by decide⟩ dX12_cancel_7 (fun H locs S => ?_)
  refine lv_if_ne (tgt := 43) hx hb dX12_cancel_10 (by decide) (fun c3 => ?_) (fun c3 => ?_)
  · have h := it_n c3 h
    refine lv_iconst (v := (0 : Int32)) hx hb dX12_cancel_43 (by decide) ?_
    exact x_iret C S hr h dX12_cancel_44
  · have h := it_p c3 h
    refine lv_aload_n hx hb dX12_cancel_13 rfl (lv_at hl 0 rfl) ?_
    refine lv_aload_n hx hb dX12_cancel_14 rfl (lv_at hl 0 rfl) ?_
    refine lv_iload_n hx hb dX12_cancel_15 rfl (lv_at hl 1 rfl) ?_
    obtain ⟨a4, σ4, hc4, h⟩ := bd_el h
    refine x_callVI C S KX12 hx0 (ok_X12_time (L := L) hc4 hSh hx0) ⟨cd_X12_time, ni_RX12, ml_RX12_281, in_X12_time, sl_X12_time⟩ ⟨by decide, by decide⟩ rfl ⟨by decide, by decide⟩ hl.1 rfl (Nat.le_of_ble_eq_true rfl) ⟨by decide, by decide⟩ dX12_cancel_16 (fun H locs S => ?_)
    refine lv_iconst (v := (-1 : Int32)) hx hb dX12_cancel_19 (by decide) ?_
    refine lv_icmp_eq (tgt := 31) hx hb dX12_cancel_20 (by decide) (fun c5 => ?_) (fun c5 => ?_)
    · have h := it_p c5 h
      refine lv_iconst (v := (1 : Int32)) hx hb dX12_cancel_31 (by decide) ?_
      refine lv_goto (tgt := 36) hx hb dX12_cancel_32 (by decide) ?_
      refine lv_iconst (v := (2 : Int32)) hx hb dX12_cancel_36 (by decide) ?_
      obtain ⟨a6, σ6, hc6, h⟩ := bd_el h
      refine x_callVI C S KX12 hx0 (ok_X12_throwsIf (L := L) hc6 hSh hx0) ⟨cd_X12_throwsIf, ni_RX12, ml_RX12_185, in_X12_throwsIf, sl_X12_throwsIf⟩ ⟨by decide, by decide⟩ rfl ⟨by decide, by decide⟩ hl.1 rfl (Nat.le_of_ble_eq_true rfl) ⟨by decide, by decide⟩ dX12_cancel_37 (fun H locs S => ?_)
      refine lv_if_eq (tgt := 45) hx hb dX12_cancel_40 (by decide) (fun c7 => ?_) (fun c7 => ?_)
      · have h := it_p c7 h
        refine lv_aload_n hx hb dX12_cancel_45 rfl (lv_at hl 0 rfl) ?_
        obtain ⟨a8, σ8, hc8, h⟩ := bd_el h
        refine x_callVV C S KX12 hx0 (ok_X12_keeps (L := L) hc8 hSh hx0) ⟨cd_X12_keeps, ni_RX12, ml_RX12_311, in_X12_keeps, sl_X12_keeps⟩ ⟨by decide, by decide⟩ rfl ⟨by decide, by decide⟩ hl.1 rfl (Nat.le_of_ble_eq_true rfl) ⟨by decide, by decide⟩ dX12_cancel_46 (fun H locs S => ?_)
        refine lv_aload_n hx hb dX12_cancel_49 rfl (lv_at hl 0 rfl) ?_
        refine lv_iload_n hx hb dX12_cancel_50 rfl (lv_at hl 1 rfl) ?_
        obtain ⟨a9, σ9, hc9, h⟩ := bd_el h
        refine x_callVI C S KX12 hx0 (ok_X12_time (L := L) hc9 hSh hx0) ⟨cd_X12_time, ni_RX12, ml_RX12_281, in_X12_time, sl_X12_time⟩ ⟨by decide, by decide⟩ rfl ⟨by decide, by decide⟩ hl.1 rfl (Nat.le_of_ble_eq_true rfl) ⟨by decide, by decide⟩ dX12_cancel_51 (fun H locs S => ?_)
        refine lv_istore_n (lv' := [(2, .int a9), (0, .ref (gb g + x0)), (1, .int x1)]) hx hb dX12_cancel_54 rfl hl (by decide) rfl (fun ls hl => ?_)
        refine lv_aload_n hx hb dX12_cancel_55 rfl (lv_at hl 1 rfl) ?_
        have hR10 : Ok 194 (R x0 13) 10084 := hSh x0 12 13 10084 hx0.1 rfl
        refine x_getR C S KX12 hx0 13 (by decide) rfl rfl fl_RX12_94 hR10 dX12_cancel_56 ?_
        refine lv_bipush (v := (14 : Int32)) hx hb dX12_cancel_59 (by decide) ?_
        refine lv_iload_n hx hb dX12_cancel_61 rfl (lv_at hl 2 rfl) ?_
        refine lv_imul hx hb dX12_cancel_62 ?_
        refine lv_iconst (v := (0 : Int32)) hx hb dX12_cancel_63 (by decide) ?_
        refine lv_iadd hx hb dX12_cancel_64 ?_
        refine lv_iconst (v := (-1 : Int32)) hx hb dX12_cancel_65 (by decide) ?_
        obtain ⟨hi11, h⟩ := ck_el h
        obtain ⟨σ12, hs12, h⟩ := sq_el h
        refine x_iast (len := 84) C S (by decide) hR10 hi11 dX12_cancel_66 hs12 (fun H locs S => ?_)
        refine lv_iload_n hx hb dX12_cancel_67 rfl (lv_at hl 0 rfl) ?_
        exact x_iret C S hr h dX12_cancel_68
      · have h := it_n c7 h
        refine lv_iconst (v := (0 : Int32)) hx hb dX12_cancel_43 (by decide) ?_
        exact x_iret C S hr h dX12_cancel_44
    · have h := it_n c5 h
      refine lv_aload_n hx hb dX12_cancel_23 rfl (lv_at hl 0 rfl) ?_
      refine lv_iload_n hx hb dX12_cancel_24 rfl (lv_at hl 1 rfl) ?_
      obtain ⟨a13, σ13, hc13, h⟩ := bd_el h
      refine x_callVI C S KX12 hx0 (ok_X12_hasFired (L := L) hc13 hSh hx0) ⟨cd_X12_hasFired, ni_RX12, ml_RX12_293, in_X12_hasFired, sl_X12_hasFired⟩ ⟨by decide, by decide⟩ rfl ⟨by decide, by decide⟩ hl.1 rfl (Nat.le_of_ble_eq_true rfl) ⟨by decide, by decide⟩ dX12_cancel_25 (fun H locs S => ?_)
      refine lv_if_eq (tgt := 35) hx hb dX12_cancel_28 (by decide) (fun c14 => ?_) (fun c14 => ?_)
      · have h := it_p c14 h
        refine lv_iconst (v := (0 : Int32)) hx hb dX12_cancel_35 (by decide) ?_
        refine lv_iconst (v := (2 : Int32)) hx hb dX12_cancel_36 (by decide) ?_
        obtain ⟨a15, σ15, hc15, h⟩ := bd_el h
        refine x_callVI C S KX12 hx0 (ok_X12_throwsIf (L := L) hc15 hSh hx0) ⟨cd_X12_throwsIf, ni_RX12, ml_RX12_185, in_X12_throwsIf, sl_X12_throwsIf⟩ ⟨by decide, by decide⟩ rfl ⟨by decide, by decide⟩ hl.1 rfl (Nat.le_of_ble_eq_true rfl) ⟨by decide, by decide⟩ dX12_cancel_37 (fun H locs S => ?_)
        refine lv_if_eq (tgt := 45) hx hb dX12_cancel_40 (by decide) (fun c16 => ?_) (fun c16 => ?_)
        · have h := it_p c16 h
          refine lv_aload_n hx hb dX12_cancel_45 rfl (lv_at hl 0 rfl) ?_
          obtain ⟨a17, σ17, hc17, h⟩ := bd_el h
          refine x_callVV C S KX12 hx0 (ok_X12_keeps (L := L) hc17 hSh hx0) ⟨cd_X12_keeps, ni_RX12, ml_RX12_311, in_X12_keeps, sl_X12_keeps⟩ ⟨by decide, by decide⟩ rfl ⟨by decide, by decide⟩ hl.1 rfl (Nat.le_of_ble_eq_true rfl) ⟨by decide, by decide⟩ dX12_cancel_46 (fun H locs S => ?_)
          refine lv_aload_n hx hb dX12_cancel_49 rfl (lv_at hl 0 rfl) ?_
          refine lv_iload_n hx hb dX12_cancel_50 rfl (lv_at hl 1 rfl) ?_
          obtain ⟨a18, σ18, hc18, h⟩ := bd_el h
          refine x_callVI C S KX12 hx0 (ok_X12_time (L := L) hc18 hSh hx0) ⟨cd_X12_time, ni_RX12, ml_RX12_281, in_X12_time, sl_X12_time⟩ ⟨by decide, by decide⟩ rfl ⟨by decide, by decide⟩ hl.1 rfl (Nat.le_of_ble_eq_true rfl) ⟨by decide, by decide⟩ dX12_cancel_51 (fun H locs S => ?_)
          refine lv_istore_n (lv' := [(2, .int a18), (0, .ref (gb g + x0)), (1, .int x1)]) hx hb dX12_cancel_54 rfl hl (by decide) rfl (fun ls hl => ?_)
          refine lv_aload_n hx hb dX12_cancel_55 rfl (lv_at hl 1 rfl) ?_
          have hR19 : Ok 194 (R x0 13) 10084 := hSh x0 12 13 10084 hx0.1 rfl
          refine x_getR C S KX12 hx0 13 (by decide) rfl rfl fl_RX12_94 hR19 dX12_cancel_56 ?_
          refine lv_bipush (v := (14 : Int32)) hx hb dX12_cancel_59 (by decide) ?_
          refine lv_iload_n hx hb dX12_cancel_61 rfl (lv_at hl 2 rfl) ?_
          refine lv_imul hx hb dX12_cancel_62 ?_
          refine lv_iconst (v := (0 : Int32)) hx hb dX12_cancel_63 (by decide) ?_
          refine lv_iadd hx hb dX12_cancel_64 ?_
          refine lv_iconst (v := (-1 : Int32)) hx hb dX12_cancel_65 (by decide) ?_
          obtain ⟨hi20, h⟩ := ck_el h
          obtain ⟨σ21, hs21, h⟩ := sq_el h
          refine x_iast (len := 84) C S (by decide) hR19 hi20 dX12_cancel_66 hs21 (fun H locs S => ?_)
          refine lv_iload_n hx hb dX12_cancel_67 rfl (lv_at hl 0 rfl) ?_
          exact x_iret C S hr h dX12_cancel_68
        · have h := it_n c16 h
          refine lv_iconst (v := (0 : Int32)) hx hb dX12_cancel_43 (by decide) ?_
          exact x_iret C S hr h dX12_cancel_44
      · have h := it_n c14 h
        refine lv_iconst (v := (1 : Int32)) hx hb dX12_cancel_31 (by decide) ?_
        refine lv_goto (tgt := 36) hx hb dX12_cancel_32 (by decide) ?_
        refine lv_iconst (v := (2 : Int32)) hx hb dX12_cancel_36 (by decide) ?_
        obtain ⟨a22, σ22, hc22, h⟩ := bd_el h
        refine x_callVI C S KX12 hx0 (ok_X12_throwsIf (L := L) hc22 hSh hx0) ⟨cd_X12_throwsIf, ni_RX12, ml_RX12_185, in_X12_throwsIf, sl_X12_throwsIf⟩ ⟨by decide, by decide⟩ rfl ⟨by decide, by decide⟩ hl.1 rfl (Nat.le_of_ble_eq_true rfl) ⟨by decide, by decide⟩ dX12_cancel_37 (fun H locs S => ?_)
        refine lv_if_eq (tgt := 45) hx hb dX12_cancel_40 (by decide) (fun c23 => ?_) (fun c23 => ?_)
        · have h := it_p c23 h
          refine lv_aload_n hx hb dX12_cancel_45 rfl (lv_at hl 0 rfl) ?_
          obtain ⟨a24, σ24, hc24, h⟩ := bd_el h
          refine x_callVV C S KX12 hx0 (ok_X12_keeps (L := L) hc24 hSh hx0) ⟨cd_X12_keeps, ni_RX12, ml_RX12_311, in_X12_keeps, sl_X12_keeps⟩ ⟨by decide, by decide⟩ rfl ⟨by decide, by decide⟩ hl.1 rfl (Nat.le_of_ble_eq_true rfl) ⟨by decide, by decide⟩ dX12_cancel_46 (fun H locs S => ?_)
          refine lv_aload_n hx hb dX12_cancel_49 rfl (lv_at hl 0 rfl) ?_
          refine lv_iload_n hx hb dX12_cancel_50 rfl (lv_at hl 1 rfl) ?_
          obtain ⟨a25, σ25, hc25, h⟩ := bd_el h
          refine x_callVI C S KX12 hx0 (ok_X12_time (L := L) hc25 hSh hx0) ⟨cd_X12_time, ni_RX12, ml_RX12_281, in_X12_time, sl_X12_time⟩ ⟨by decide, by decide⟩ rfl ⟨by decide, by decide⟩ hl.1 rfl (Nat.le_of_ble_eq_true rfl) ⟨by decide, by decide⟩ dX12_cancel_51 (fun H locs S => ?_)
          refine lv_istore_n (lv' := [(2, .int a25), (0, .ref (gb g + x0)), (1, .int x1)]) hx hb dX12_cancel_54 rfl hl (by decide) rfl (fun ls hl => ?_)
          refine lv_aload_n hx hb dX12_cancel_55 rfl (lv_at hl 1 rfl) ?_
          have hR26 : Ok 194 (R x0 13) 10084 := hSh x0 12 13 10084 hx0.1 rfl
          refine x_getR C S KX12 hx0 13 (by decide) rfl rfl fl_RX12_94 hR26 dX12_cancel_56 ?_
          refine lv_bipush (v := (14 : Int32)) hx hb dX12_cancel_59 (by decide) ?_
          refine lv_iload_n hx hb dX12_cancel_61 rfl (lv_at hl 2 rfl) ?_
          refine lv_imul hx hb dX12_cancel_62 ?_
          refine lv_iconst (v := (0 : Int32)) hx hb dX12_cancel_63 (by decide) ?_
          refine lv_iadd hx hb dX12_cancel_64 ?_
          refine lv_iconst (v := (-1 : Int32)) hx hb dX12_cancel_65 (by decide) ?_
          obtain ⟨hi27, h⟩ := ck_el h
          obtain ⟨σ28, hs28, h⟩ := sq_el h
          refine x_iast (len := 84) C S (by decide) hR26 hi27 dX12_cancel_66 hs28 (fun H locs S => ?_)
          refine lv_iload_n hx hb dX12_cancel_67 rfl (lv_at hl 0 rfl) ?_
          exact x_iret C S hr h dX12_cancel_68
        · have h := it_n c23 h
          refine lv_iconst (v := (0 : Int32)) hx hb dX12_cancel_43 (by decide) ?_
          exact x_iret C S hr h dX12_cancel_44
theorem dX12_fire_0 : decode cX12_fire 0 = .ok (.aload_n 0, 1) := by decide +kernel
theorem dX12_fire_1 : decode cX12_fire 1 = .ok (.iconst 0, 1) := by decide +kernel
theorem dX12_fire_2 : decode cX12_fire 2 = .ok (.putfield 3, 3) := by decide +kernel
theorem dX12_fire_5 : decode cX12_fire 5 = .ok (.aload_n 0, 1) := by decide +kernel
theorem dX12_fire_6 : decode cX12_fire 6 = .ok (.iload_n 1, 1) := by decide +kernel
theorem dX12_fire_7 : decode cX12_fire 7 = .ok (.invokevirtual 198, 3) := by decide +kernel
theorem dX12_fire_10 : decode cX12_fire 10 = .ok (.ifCond .ne 42, 3) := by decide +kernel
theorem dX12_fire_13 : decode cX12_fire 13 = .ok (.aload_n 0, 1) := by decide +kernel
theorem dX12_fire_14 : decode cX12_fire 14 = .ok (.aload_n 0, 1) := by decide +kernel
theorem dX12_fire_15 : decode cX12_fire 15 = .ok (.iload_n 1, 1) := by decide +kernel
theorem dX12_fire_16 : decode cX12_fire 16 = .ok (.invokevirtual 281, 3) := by decide +kernel
theorem dX12_fire_19 : decode cX12_fire 19 = .ok (.iconst (-1), 1) := by decide +kernel
theorem dX12_fire_20 : decode cX12_fire 20 = .ok (.if_icmp .eq 20, 3) := by decide +kernel
theorem dX12_fire_23 : decode cX12_fire 23 = .ok (.aload_n 0, 1) := by decide +kernel
theorem dX12_fire_24 : decode cX12_fire 24 = .ok (.iload_n 1, 1) := by decide +kernel
theorem dX12_fire_25 : decode cX12_fire 25 = .ok (.invokevirtual 293, 3) := by decide +kernel
theorem dX12_fire_28 : decode cX12_fire 28 = .ok (.ifCond .ne 12, 3) := by decide +kernel
theorem dX12_fire_31 : decode cX12_fire 31 = .ok (.aload_n 0, 1) := by decide +kernel
theorem dX12_fire_32 : decode cX12_fire 32 = .ok (.iconst 0, 1) := by decide +kernel
theorem dX12_fire_33 : decode cX12_fire 33 = .ok (.invokevirtual 308, 3) := by decide +kernel
theorem dX12_fire_36 : decode cX12_fire 36 = .ok (.iload_n 1, 1) := by decide +kernel
theorem dX12_fire_37 : decode cX12_fire 37 = .ok (.if_icmp .eq 7, 3) := by decide +kernel
theorem dX12_fire_40 : decode cX12_fire 40 = .ok (.iconst 1, 1) := by decide +kernel
theorem dX12_fire_41 : decode cX12_fire 41 = .ok (.goto 4, 3) := by decide +kernel
theorem dX12_fire_44 : decode cX12_fire 44 = .ok (.iconst 0, 1) := by decide +kernel
theorem dX12_fire_45 : decode cX12_fire 45 = .ok (.iconst 2, 1) := by decide +kernel
theorem dX12_fire_46 : decode cX12_fire 46 = .ok (.invokevirtual 185, 3) := by decide +kernel
theorem dX12_fire_49 : decode cX12_fire 49 = .ok (.ifCond .eq 5, 3) := by decide +kernel
theorem dX12_fire_52 : decode cX12_fire 52 = .ok (.iconst 0, 1) := by decide +kernel
theorem dX12_fire_53 : decode cX12_fire 53 = .ok (.ireturn, 1) := by decide +kernel
theorem dX12_fire_54 : decode cX12_fire 54 = .ok (.aload_n 0, 1) := by decide +kernel
theorem dX12_fire_55 : decode cX12_fire 55 = .ok (.invokevirtual 311, 3) := by decide +kernel
theorem dX12_fire_58 : decode cX12_fire 58 = .ok (.aload_n 0, 1) := by decide +kernel
theorem dX12_fire_59 : decode cX12_fire 59 = .ok (.getfield 94, 3) := by decide +kernel
theorem dX12_fire_62 : decode cX12_fire 62 = .ok (.bipush 14, 2) := by decide +kernel
theorem dX12_fire_64 : decode cX12_fire 64 = .ok (.iload_n 1, 1) := by decide +kernel
theorem dX12_fire_65 : decode cX12_fire 65 = .ok (.imul, 1) := by decide +kernel
theorem dX12_fire_66 : decode cX12_fire 66 = .ok (.iconst 1, 1) := by decide +kernel
theorem dX12_fire_67 : decode cX12_fire 67 = .ok (.iadd, 1) := by decide +kernel
theorem dX12_fire_68 : decode cX12_fire 68 = .ok (.iconst 1, 1) := by decide +kernel
theorem dX12_fire_69 : decode cX12_fire 69 = .ok (.iastore, 1) := by decide +kernel
theorem dX12_fire_70 : decode cX12_fire 70 = .ok (.aload_n 0, 1) := by decide +kernel
theorem dX12_fire_71 : decode cX12_fire 71 = .ok (.iload_n 1, 1) := by decide +kernel
theorem dX12_fire_72 : decode cX12_fire 72 = .ok (.invokevirtual 281, 3) := by decide +kernel
theorem dX12_fire_75 : decode cX12_fire 75 = .ok (.ireturn, 1) := by decide +kernel
def f_X12_fire (N : Nat) (R : Nat → Nat → Nat) (σ : SI) (x0 : Nat) (x1 : Int32) : Option (Int32 × SI) := sq (up σ x0 0 (0 : Int32)) (fun σ1 => bd (f_X12_noBlast N R σ1 x0 x1) (fun a2 σ2 => if a2 = 0 then (bd (f_X12_time N R σ2 x0 x1) (fun a4 σ4 => if a4 = (-1 : Int32) then (bd (f_X12_throwsIf N R σ4 x0 (1 : Int32) (2 : Int32)) (fun a6 σ6 => if a6 = 0 then (bd (f_X12_keeps N R σ6 x0) (fun _ σ8 => ck (((14 : Int32) * x1) + (1 : Int32)) 84 (sq (up σ8 (R x0 13) (((14 : Int32) * x1) + (1 : Int32)).toNatClampNeg (1 : Int32)) (fun σ11 => bd (f_X12_time N R σ11 x0 x1) (fun a12 σ12 => some (a12, σ12)))))) else (some ((0 : Int32), σ6)))) else (bd (f_X12_hasFired N R σ4 x0 x1) (fun a13 σ13 => if a13 = 0 then (bd (f_X12_next N R σ13 x0 (0 : Int32)) (fun a22 σ22 => if a22 = x1 then (bd (f_X12_throwsIf N R σ22 x0 (0 : Int32) (2 : Int32)) (fun a24 σ24 => if a24 = 0 then (bd (f_X12_keeps N R σ24 x0) (fun _ σ26 => ck (((14 : Int32) * x1) + (1 : Int32)) 84 (sq (up σ26 (R x0 13) (((14 : Int32) * x1) + (1 : Int32)).toNatClampNeg (1 : Int32)) (fun σ29 => bd (f_X12_time N R σ29 x0 x1) (fun a30 σ30 => some (a30, σ30)))))) else (some ((0 : Int32), σ24)))) else (bd (f_X12_throwsIf N R σ22 x0 (1 : Int32) (2 : Int32)) (fun a31 σ31 => if a31 = 0 then (bd (f_X12_keeps N R σ31 x0) (fun _ σ33 => ck (((14 : Int32) * x1) + (1 : Int32)) 84 (sq (up σ33 (R x0 13) (((14 : Int32) * x1) + (1 : Int32)).toNatClampNeg (1 : Int32)) (fun σ36 => bd (f_X12_time N R σ36 x0 x1) (fun a37 σ37 => some (a37, σ37)))))) else (some ((0 : Int32), σ31)))))) else (bd (f_X12_throwsIf N R σ13 x0 (1 : Int32) (2 : Int32)) (fun a15 σ15 => if a15 = 0 then (bd (f_X12_keeps N R σ15 x0) (fun _ σ17 => ck (((14 : Int32) * x1) + (1 : Int32)) 84 (sq (up σ17 (R x0 13) (((14 : Int32) * x1) + (1 : Int32)).toNatClampNeg (1 : Int32)) (fun σ20 => bd (f_X12_time N R σ20 x0 x1) (fun a21 σ21 => some (a21, σ21)))))) else (some ((0 : Int32), σ15)))))))) else (some ((0 : Int32), σ2))))
set_option maxHeartbeats 4000000 in
set_option maxRecDepth 100000 in
theorem ok_X12_fire {l : Launch} {g : GL} {R : Nat → Nat → Nat} {L : Nat → Nat → Int64} {N : Nat} {σ : SI} {x0 : Nat} {x1 : Int32} {r : (Int32 × SI)} (h : f_X12_fire N R σ x0 x1 = some r) (hSh : ShR R) (hx0 : Ok 194 x0 12) : Ct l g 3 yX12_fire cX12_fire 2 (some .int) 194 194 0 0 [.ref (gb g + x0), .int x1] (mkS σ R L) (PI R L r) := by
  refine Met.ofW (cc := cX12_fire) (maxL := 2) (ret := (some .int)) (by decide) rfl ?_
  intro p e s m args below meth c s₁ B hml hv
  obtain ⟨rfl, hE, hLo, hWd⟩ := hv
  have hr : meth.sig.returnType = (some .int) := B.returns
  have C : Cx l g p s m meth c cX12_fire 2 RX12 := ⟨B.exec, B.bytes, hml, findClass_of_methodNamed B.named, hE, hLo, B.notSynchronized⟩
  have S : S2 g s σ R L s.heap [] := ⟨hWd, va_S.rf⟩
  have hx := C.1
  have hb := C.2.1
  have hl := lv_entry ([.ref (gb g + x0), .int x1]) (n := 2) (Nat.le_of_ble_eq_true rfl)
  rw [lg_entry_eq]
  generalize (lg_sl ([.ref (gb g + x0), .int x1]) ++ List.replicate (2 - (lg_sl ([.ref (gb g + x0), .int x1])).length) Slot.unset).toArray = ls at hl ⊢
  have hl : lv_has ls 2 [(0, .ref (gb g + x0)), (1, .int x1)] := hl
  generalize hH : s.heap = H at S ⊢
  generalize hlc : ([] : List Loc) = locs at S ⊢
  rw [f_X12_fire] at h
  refine lv_aload_n hx hb dX12_fire_0 rfl (lv_at hl 0 rfl) ?_
  refine lv_iconst (v := (0 : Int32)) hx hb dX12_fire_1 (by decide) ?_
  obtain ⟨σ1, hs1, h⟩ := sq_el h
  refine x_putI C S KX12 hx0 0 (by decide) rfl rfl rfl ⟨rfl, rfl⟩ fl_RX12_3 dX12_fire_2 hs1 (fun H locs S => ?_)
  refine lv_aload_n hx hb dX12_fire_5 rfl (lv_at hl 0 rfl) ?_
  refine lv_iload_n hx hb dX12_fire_6 rfl (lv_at hl 1 rfl) ?_
  obtain ⟨a2, σ2, hc2, h⟩ := bd_el h
  refine x_callVI C S KX12 hx0 (ok_X12_noBlast (L := L) hc2 hSh hx0) ⟨cd_X12_noBlast, ni_RX12, ml_RX12_198, in_X12_noBlast, sl_X12_noBlast⟩ ⟨by decide, by decide⟩ rfl ⟨by decide, by decide⟩ hl.1 rfl (Nat.le_of_ble_eq_true rfl) ⟨by decide, by decide⟩ dX12_fire_7 (fun H locs S => ?_)
  refine lv_if_ne (tgt := 52) hx hb dX12_fire_10 (by decide) (fun c3 => ?_) (fun c3 => ?_)
  · have h := it_n c3 h
    refine lv_iconst (v := (0 : Int32)) hx hb dX12_fire_52 (by decide) ?_
    exact x_iret C S hr h dX12_fire_53
  · have h := it_p c3 h
    refine lv_aload_n hx hb dX12_fire_13 rfl (lv_at hl 0 rfl) ?_
    refine lv_aload_n hx hb dX12_fire_14 rfl (lv_at hl 0 rfl) ?_
    refine lv_iload_n hx hb dX12_fire_15 rfl (lv_at hl 1 rfl) ?_
    obtain ⟨a4, σ4, hc4, h⟩ := bd_el h
    refine x_callVI C S KX12 hx0 (ok_X12_time (L := L) hc4 hSh hx0) ⟨cd_X12_time, ni_RX12, ml_RX12_281, in_X12_time, sl_X12_time⟩ ⟨by decide, by decide⟩ rfl ⟨by decide, by decide⟩ hl.1 rfl (Nat.le_of_ble_eq_true rfl) ⟨by decide, by decide⟩ dX12_fire_16 (fun H locs S => ?_)
    refine lv_iconst (v := (-1 : Int32)) hx hb dX12_fire_19 (by decide) ?_
    refine lv_icmp_eq (tgt := 40) hx hb dX12_fire_20 (by decide) (fun c5 => ?_) (fun c5 => ?_)
    · have h := it_p c5 h
      refine lv_iconst (v := (1 : Int32)) hx hb dX12_fire_40 (by decide) ?_
      refine lv_goto (tgt := 45) hx hb dX12_fire_41 (by decide) ?_
      refine lv_iconst (v := (2 : Int32)) hx hb dX12_fire_45 (by decide) ?_
      obtain ⟨a6, σ6, hc6, h⟩ := bd_el h
      refine x_callVI C S KX12 hx0 (ok_X12_throwsIf (L := L) hc6 hSh hx0) ⟨cd_X12_throwsIf, ni_RX12, ml_RX12_185, in_X12_throwsIf, sl_X12_throwsIf⟩ ⟨by decide, by decide⟩ rfl ⟨by decide, by decide⟩ hl.1 rfl (Nat.le_of_ble_eq_true rfl) ⟨by decide, by decide⟩ dX12_fire_46 (fun H locs S => ?_)
      refine lv_if_eq (tgt := 54) hx hb dX12_fire_49 (by decide) (fun c7 => ?_) (fun c7 => ?_)
      · have h := it_p c7 h
        refine lv_aload_n hx hb dX12_fire_54 rfl (lv_at hl 0 rfl) ?_
        obtain ⟨a8, σ8, hc8, h⟩ := bd_el h
        refine x_callVV C S KX12 hx0 (ok_X12_keeps (L := L) hc8 hSh hx0) ⟨cd_X12_keeps, ni_RX12, ml_RX12_311, in_X12_keeps, sl_X12_keeps⟩ ⟨by decide, by decide⟩ rfl ⟨by decide, by decide⟩ hl.1 rfl (Nat.le_of_ble_eq_true rfl) ⟨by decide, by decide⟩ dX12_fire_55 (fun H locs S => ?_)
        refine lv_aload_n hx hb dX12_fire_58 rfl (lv_at hl 0 rfl) ?_
        have hR9 : Ok 194 (R x0 13) 10084 := hSh x0 12 13 10084 hx0.1 rfl
        refine x_getR C S KX12 hx0 13 (by decide) rfl rfl fl_RX12_94 hR9 dX12_fire_59 ?_
        refine lv_bipush (v := (14 : Int32)) hx hb dX12_fire_62 (by decide) ?_
        refine lv_iload_n hx hb dX12_fire_64 rfl (lv_at hl 1 rfl) ?_
        refine lv_imul hx hb dX12_fire_65 ?_
        refine lv_iconst (v := (1 : Int32)) hx hb dX12_fire_66 (by decide) ?_
        refine lv_iadd hx hb dX12_fire_67 ?_
        refine lv_iconst (v := (1 : Int32)) hx hb dX12_fire_68 (by decide) ?_
        obtain ⟨hi10, h⟩ := ck_el h
        obtain ⟨σ11, hs11, h⟩ := sq_el h
        refine x_iast (len := 84) C S (by decide) hR9 hi10 dX12_fire_69 hs11 (fun H locs S => ?_)
        refine lv_aload_n hx hb dX12_fire_70 rfl (lv_at hl 0 rfl) ?_
        refine lv_iload_n hx hb dX12_fire_71 rfl (lv_at hl 1 rfl) ?_
        obtain ⟨a12, σ12, hc12, h⟩ := bd_el h
        refine x_callVI C S KX12 hx0 (ok_X12_time (L := L) hc12 hSh hx0) ⟨cd_X12_time, ni_RX12, ml_RX12_281, in_X12_time, sl_X12_time⟩ ⟨by decide, by decide⟩ rfl ⟨by decide, by decide⟩ hl.1 rfl (Nat.le_of_ble_eq_true rfl) ⟨by decide, by decide⟩ dX12_fire_72 (fun H locs S => ?_)
        exact x_iret C S hr h dX12_fire_75
      · have h := it_n c7 h
        refine lv_iconst (v := (0 : Int32)) hx hb dX12_fire_52 (by decide) ?_
        exact x_iret C S hr h dX12_fire_53
    · have h := it_n c5 h
      refine lv_aload_n hx hb dX12_fire_23 rfl (lv_at hl 0 rfl) ?_
      refine lv_iload_n hx hb dX12_fire_24 rfl (lv_at hl 1 rfl) ?_
      obtain ⟨a13, σ13, hc13, h⟩ := bd_el h
      refine x_callVI C S KX12 hx0 (ok_X12_hasFired (L := L) hc13 hSh hx0) ⟨cd_X12_hasFired, ni_RX12, ml_RX12_293, in_X12_hasFired, sl_X12_hasFired⟩ ⟨by decide, by decide⟩ rfl ⟨by decide, by decide⟩ hl.1 rfl (Nat.le_of_ble_eq_true rfl) ⟨by decide, by decide⟩ dX12_fire_25 (fun H locs S => ?_)
      refine lv_if_ne (tgt := 40) hx hb dX12_fire_28 (by decide) (fun c14 => ?_) (fun c14 => ?_)
      · have h := it_n c14 h
        refine lv_iconst (v := (1 : Int32)) hx hb dX12_fire_40 (by decide) ?_
        refine lv_goto (tgt := 45) hx hb dX12_fire_41 (by decide) ?_
        refine lv_iconst (v := (2 : Int32)) hx hb dX12_fire_45 (by decide) ?_
        obtain ⟨a15, σ15, hc15, h⟩ := bd_el h
        refine x_callVI C S KX12 hx0 (ok_X12_throwsIf (L := L) hc15 hSh hx0) ⟨cd_X12_throwsIf, ni_RX12, ml_RX12_185, in_X12_throwsIf, sl_X12_throwsIf⟩ ⟨by decide, by decide⟩ rfl ⟨by decide, by decide⟩ hl.1 rfl (Nat.le_of_ble_eq_true rfl) ⟨by decide, by decide⟩ dX12_fire_46 (fun H locs S => ?_)
        refine lv_if_eq (tgt := 54) hx hb dX12_fire_49 (by decide) (fun c16 => ?_) (fun c16 => ?_)
        · have h := it_p c16 h
          refine lv_aload_n hx hb dX12_fire_54 rfl (lv_at hl 0 rfl) ?_
          obtain ⟨a17, σ17, hc17, h⟩ := bd_el h
          refine x_callVV C S KX12 hx0 (ok_X12_keeps (L := L) hc17 hSh hx0) ⟨cd_X12_keeps, ni_RX12, ml_RX12_311, in_X12_keeps, sl_X12_keeps⟩ ⟨by decide, by decide⟩ rfl ⟨by decide, by decide⟩ hl.1 rfl (Nat.le_of_ble_eq_true rfl) ⟨by decide, by decide⟩ dX12_fire_55 (fun H locs S => ?_)
          refine lv_aload_n hx hb dX12_fire_58 rfl (lv_at hl 0 rfl) ?_
          have hR18 : Ok 194 (R x0 13) 10084 := hSh x0 12 13 10084 hx0.1 rfl
          refine x_getR C S KX12 hx0 13 (by decide) rfl rfl fl_RX12_94 hR18 dX12_fire_59 ?_
          refine lv_bipush (v := (14 : Int32)) hx hb dX12_fire_62 (by decide) ?_
          refine lv_iload_n hx hb dX12_fire_64 rfl (lv_at hl 1 rfl) ?_
          refine lv_imul hx hb dX12_fire_65 ?_
          refine lv_iconst (v := (1 : Int32)) hx hb dX12_fire_66 (by decide) ?_
          refine lv_iadd hx hb dX12_fire_67 ?_
          refine lv_iconst (v := (1 : Int32)) hx hb dX12_fire_68 (by decide) ?_
          obtain ⟨hi19, h⟩ := ck_el h
          obtain ⟨σ20, hs20, h⟩ := sq_el h
          refine x_iast (len := 84) C S (by decide) hR18 hi19 dX12_fire_69 hs20 (fun H locs S => ?_)
          refine lv_aload_n hx hb dX12_fire_70 rfl (lv_at hl 0 rfl) ?_
          refine lv_iload_n hx hb dX12_fire_71 rfl (lv_at hl 1 rfl) ?_
          obtain ⟨a21, σ21, hc21, h⟩ := bd_el h
          refine x_callVI C S KX12 hx0 (ok_X12_time (L := L) hc21 hSh hx0) ⟨cd_X12_time, ni_RX12, ml_RX12_281, in_X12_time, sl_X12_time⟩ ⟨by decide, by decide⟩ rfl ⟨by decide, by decide⟩ hl.1 rfl (Nat.le_of_ble_eq_true rfl) ⟨by decide, by decide⟩ dX12_fire_72 (fun H locs S => ?_)
          exact x_iret C S hr h dX12_fire_75
        · have h := it_n c16 h
          refine lv_iconst (v := (0 : Int32)) hx hb dX12_fire_52 (by decide) ?_
          exact x_iret C S hr h dX12_fire_53
      · have h := it_p c14 h
        refine lv_aload_n hx hb dX12_fire_31 rfl (lv_at hl 0 rfl) ?_
        refine lv_iconst (v := (0 : Int32)) hx hb dX12_fire_32 (by decide) ?_
        obtain ⟨a22, σ22, hc22, h⟩ := bd_el h
        refine x_callVI C S KX12 hx0 (ok_X12_next (L := L) hc22 hSh hx0) ⟨cd_X12_next, ni_RX12, ml_RX12_308, in_X12_next, sl_X12_next⟩ ⟨by decide, by decide⟩ rfl ⟨by decide, by decide⟩ hl.1 rfl (Nat.le_of_ble_eq_true rfl) ⟨by decide, by decide⟩ dX12_fire_33 (fun H locs S => ?_)
        refine lv_iload_n hx hb dX12_fire_36 rfl (lv_at hl 1 rfl) ?_
        refine lv_icmp_eq (tgt := 44) hx hb dX12_fire_37 (by decide) (fun c23 => ?_) (fun c23 => ?_)
        · have h := it_p c23 h
          refine lv_iconst (v := (0 : Int32)) hx hb dX12_fire_44 (by decide) ?_
          refine lv_iconst (v := (2 : Int32)) hx hb dX12_fire_45 (by decide) ?_
          obtain ⟨a24, σ24, hc24, h⟩ := bd_el h
          refine x_callVI C S KX12 hx0 (ok_X12_throwsIf (L := L) hc24 hSh hx0) ⟨cd_X12_throwsIf, ni_RX12, ml_RX12_185, in_X12_throwsIf, sl_X12_throwsIf⟩ ⟨by decide, by decide⟩ rfl ⟨by decide, by decide⟩ hl.1 rfl (Nat.le_of_ble_eq_true rfl) ⟨by decide, by decide⟩ dX12_fire_46 (fun H locs S => ?_)
          refine lv_if_eq (tgt := 54) hx hb dX12_fire_49 (by decide) (fun c25 => ?_) (fun c25 => ?_)
          · have h := it_p c25 h
            refine lv_aload_n hx hb dX12_fire_54 rfl (lv_at hl 0 rfl) ?_
            obtain ⟨a26, σ26, hc26, h⟩ := bd_el h
            refine x_callVV C S KX12 hx0 (ok_X12_keeps (L := L) hc26 hSh hx0) ⟨cd_X12_keeps, ni_RX12, ml_RX12_311, in_X12_keeps, sl_X12_keeps⟩ ⟨by decide, by decide⟩ rfl ⟨by decide, by decide⟩ hl.1 rfl (Nat.le_of_ble_eq_true rfl) ⟨by decide, by decide⟩ dX12_fire_55 (fun H locs S => ?_)
            refine lv_aload_n hx hb dX12_fire_58 rfl (lv_at hl 0 rfl) ?_
            have hR27 : Ok 194 (R x0 13) 10084 := hSh x0 12 13 10084 hx0.1 rfl
            refine x_getR C S KX12 hx0 13 (by decide) rfl rfl fl_RX12_94 hR27 dX12_fire_59 ?_
            refine lv_bipush (v := (14 : Int32)) hx hb dX12_fire_62 (by decide) ?_
            refine lv_iload_n hx hb dX12_fire_64 rfl (lv_at hl 1 rfl) ?_
            refine lv_imul hx hb dX12_fire_65 ?_
            refine lv_iconst (v := (1 : Int32)) hx hb dX12_fire_66 (by decide) ?_
            refine lv_iadd hx hb dX12_fire_67 ?_
            refine lv_iconst (v := (1 : Int32)) hx hb dX12_fire_68 (by decide) ?_
            obtain ⟨hi28, h⟩ := ck_el h
            obtain ⟨σ29, hs29, h⟩ := sq_el h
            refine x_iast (len := 84) C S (by decide) hR27 hi28 dX12_fire_69 hs29 (fun H locs S => ?_)
            refine lv_aload_n hx hb dX12_fire_70 rfl (lv_at hl 0 rfl) ?_
            refine lv_iload_n hx hb dX12_fire_71 rfl (lv_at hl 1 rfl) ?_
            obtain ⟨a30, σ30, hc30, h⟩ := bd_el h
            refine x_callVI C S KX12 hx0 (ok_X12_time (L := L) hc30 hSh hx0) ⟨cd_X12_time, ni_RX12, ml_RX12_281, in_X12_time, sl_X12_time⟩ ⟨by decide, by decide⟩ rfl ⟨by decide, by decide⟩ hl.1 rfl (Nat.le_of_ble_eq_true rfl) ⟨by decide, by decide⟩ dX12_fire_72 (fun H locs S => ?_)
            exact x_iret C S hr h dX12_fire_75
          · have h := it_n c25 h
            refine lv_iconst (v := (0 : Int32)) hx hb dX12_fire_52 (by decide) ?_
            exact x_iret C S hr h dX12_fire_53
        · have h := it_n c23 h
          refine lv_iconst (v := (1 : Int32)) hx hb dX12_fire_40 (by decide) ?_
          refine lv_goto (tgt := 45) hx hb dX12_fire_41 (by decide) ?_
          refine lv_iconst (v := (2 : Int32)) hx hb dX12_fire_45 (by decide) ?_
          obtain ⟨a31, σ31, hc31, h⟩ := bd_el h
          refine x_callVI C S KX12 hx0 (ok_X12_throwsIf (L := L) hc31 hSh hx0) ⟨cd_X12_throwsIf, ni_RX12, ml_RX12_185, in_X12_throwsIf, sl_X12_throwsIf⟩ ⟨by decide, by decide⟩ rfl ⟨by decide, by decide⟩ hl.1 rfl (Nat.le_of_ble_eq_true rfl) ⟨by decide, by decide⟩ dX12_fire_46 (fun H locs S => ?_)
          refine lv_if_eq (tgt := 54) hx hb dX12_fire_49 (by decide) (fun c32 => ?_) (fun c32 => ?_)
          · have h := it_p c32 h
            refine lv_aload_n hx hb dX12_fire_54 rfl (lv_at hl 0 rfl) ?_
            obtain ⟨a33, σ33, hc33, h⟩ := bd_el h
            refine x_callVV C S KX12 hx0 (ok_X12_keeps (L := L) hc33 hSh hx0) ⟨cd_X12_keeps, ni_RX12, ml_RX12_311, in_X12_keeps, sl_X12_keeps⟩ ⟨by decide, by decide⟩ rfl ⟨by decide, by decide⟩ hl.1 rfl (Nat.le_of_ble_eq_true rfl) ⟨by decide, by decide⟩ dX12_fire_55 (fun H locs S => ?_)
            refine lv_aload_n hx hb dX12_fire_58 rfl (lv_at hl 0 rfl) ?_
            have hR34 : Ok 194 (R x0 13) 10084 := hSh x0 12 13 10084 hx0.1 rfl
            refine x_getR C S KX12 hx0 13 (by decide) rfl rfl fl_RX12_94 hR34 dX12_fire_59 ?_
            refine lv_bipush (v := (14 : Int32)) hx hb dX12_fire_62 (by decide) ?_
            refine lv_iload_n hx hb dX12_fire_64 rfl (lv_at hl 1 rfl) ?_
            refine lv_imul hx hb dX12_fire_65 ?_
            refine lv_iconst (v := (1 : Int32)) hx hb dX12_fire_66 (by decide) ?_
            refine lv_iadd hx hb dX12_fire_67 ?_
            refine lv_iconst (v := (1 : Int32)) hx hb dX12_fire_68 (by decide) ?_
            obtain ⟨hi35, h⟩ := ck_el h
            obtain ⟨σ36, hs36, h⟩ := sq_el h
            refine x_iast (len := 84) C S (by decide) hR34 hi35 dX12_fire_69 hs36 (fun H locs S => ?_)
            refine lv_aload_n hx hb dX12_fire_70 rfl (lv_at hl 0 rfl) ?_
            refine lv_iload_n hx hb dX12_fire_71 rfl (lv_at hl 1 rfl) ?_
            obtain ⟨a37, σ37, hc37, h⟩ := bd_el h
            refine x_callVI C S KX12 hx0 (ok_X12_time (L := L) hc37 hSh hx0) ⟨cd_X12_time, ni_RX12, ml_RX12_281, in_X12_time, sl_X12_time⟩ ⟨by decide, by decide⟩ rfl ⟨by decide, by decide⟩ hl.1 rfl (Nat.le_of_ble_eq_true rfl) ⟨by decide, by decide⟩ dX12_fire_72 (fun H locs S => ?_)
            exact x_iret C S hr h dX12_fire_75
          · have h := it_n c32 h
            refine lv_iconst (v := (0 : Int32)) hx hb dX12_fire_52 (by decide) ?_
            exact x_iret C S hr h dX12_fire_53
theorem dX12_retime_0 : decode cX12_retime 0 = .ok (.aload_n 0, 1) := by decide +kernel
theorem dX12_retime_1 : decode cX12_retime 1 = .ok (.iconst 0, 1) := by decide +kernel
theorem dX12_retime_2 : decode cX12_retime 2 = .ok (.putfield 3, 3) := by decide +kernel
theorem dX12_retime_5 : decode cX12_retime 5 = .ok (.aload_n 0, 1) := by decide +kernel
theorem dX12_retime_6 : decode cX12_retime 6 = .ok (.iload_n 1, 1) := by decide +kernel
theorem dX12_retime_7 : decode cX12_retime 7 = .ok (.invokevirtual 198, 3) := by decide +kernel
theorem dX12_retime_10 : decode cX12_retime 10 = .ok (.ifCond .ne 40, 3) := by decide +kernel
theorem dX12_retime_13 : decode cX12_retime 13 = .ok (.aload_n 0, 1) := by decide +kernel
theorem dX12_retime_14 : decode cX12_retime 14 = .ok (.iload_n 2, 1) := by decide +kernel
theorem dX12_retime_15 : decode cX12_retime 15 = .ok (.iconst 0, 1) := by decide +kernel
theorem dX12_retime_16 : decode cX12_retime 16 = .ok (.sipush 800, 3) := by decide +kernel
theorem dX12_retime_19 : decode cX12_retime 19 = .ok (.invokestatic 71, 3) := by decide +kernel
theorem dX12_retime_22 : decode cX12_retime 22 = .ok (.ifCond .ne 7, 3) := by decide +kernel
theorem dX12_retime_25 : decode cX12_retime 25 = .ok (.iconst 1, 1) := by decide +kernel
theorem dX12_retime_26 : decode cX12_retime 26 = .ok (.goto 4, 3) := by decide +kernel
theorem dX12_retime_29 : decode cX12_retime 29 = .ok (.iconst 0, 1) := by decide +kernel
theorem dX12_retime_30 : decode cX12_retime 30 = .ok (.iconst 2, 1) := by decide +kernel
theorem dX12_retime_31 : decode cX12_retime 31 = .ok (.invokevirtual 185, 3) := by decide +kernel
theorem dX12_retime_34 : decode cX12_retime 34 = .ok (.ifCond .ne 16, 3) := by decide +kernel
theorem dX12_retime_37 : decode cX12_retime 37 = .ok (.aload_n 0, 1) := by decide +kernel
theorem dX12_retime_38 : decode cX12_retime 38 = .ok (.aload_n 0, 1) := by decide +kernel
theorem dX12_retime_39 : decode cX12_retime 39 = .ok (.iload_n 1, 1) := by decide +kernel
theorem dX12_retime_40 : decode cX12_retime 40 = .ok (.invokevirtual 293, 3) := by decide +kernel
theorem dX12_retime_43 : decode cX12_retime 43 = .ok (.iconst 3, 1) := by decide +kernel
theorem dX12_retime_44 : decode cX12_retime 44 = .ok (.invokevirtual 185, 3) := by decide +kernel
theorem dX12_retime_47 : decode cX12_retime 47 = .ok (.ifCond .eq 5, 3) := by decide +kernel
theorem dX12_retime_50 : decode cX12_retime 50 = .ok (.iconst 0, 1) := by decide +kernel
theorem dX12_retime_51 : decode cX12_retime 51 = .ok (.ireturn, 1) := by decide +kernel
theorem dX12_retime_52 : decode cX12_retime 52 = .ok (.aload_n 0, 1) := by decide +kernel
theorem dX12_retime_53 : decode cX12_retime 53 = .ok (.invokevirtual 311, 3) := by decide +kernel
theorem dX12_retime_56 : decode cX12_retime 56 = .ok (.iconst 0, 1) := by decide +kernel
theorem dX12_retime_57 : decode cX12_retime 57 = .ok (.istore_n 3, 1) := by decide +kernel
theorem dX12_retime_58 : decode cX12_retime 58 = .ok (.iload_n 3, 1) := by decide +kernel
theorem dX12_retime_59 : decode cX12_retime 59 = .ok (.aload_n 0, 1) := by decide +kernel
theorem dX12_retime_60 : decode cX12_retime 60 = .ok (.iload_n 1, 1) := by decide +kernel
theorem dX12_retime_61 : decode cX12_retime 61 = .ok (.invokevirtual 202, 3) := by decide +kernel
theorem dX12_retime_64 : decode cX12_retime 64 = .ok (.if_icmp .ge 25, 3) := by decide +kernel
theorem dX12_retime_67 : decode cX12_retime 67 = .ok (.aload_n 0, 1) := by decide +kernel
theorem dX12_retime_68 : decode cX12_retime 68 = .ok (.getfield 94, 3) := by decide +kernel
theorem dX12_retime_71 : decode cX12_retime 71 = .ok (.bipush 14, 2) := by decide +kernel
theorem dX12_retime_73 : decode cX12_retime 73 = .ok (.iload_n 1, 1) := by decide +kernel
theorem dX12_retime_74 : decode cX12_retime 74 = .ok (.imul, 1) := by decide +kernel
theorem dX12_retime_75 : decode cX12_retime 75 = .ok (.iconst 2, 1) := by decide +kernel
theorem dX12_retime_76 : decode cX12_retime 76 = .ok (.iadd, 1) := by decide +kernel
theorem dX12_retime_77 : decode cX12_retime 77 = .ok (.iload_n 3, 1) := by decide +kernel
theorem dX12_retime_78 : decode cX12_retime 78 = .ok (.iadd, 1) := by decide +kernel
theorem dX12_retime_79 : decode cX12_retime 79 = .ok (.iload_n 2, 1) := by decide +kernel
theorem dX12_retime_80 : decode cX12_retime 80 = .ok (.iload_n 3, 1) := by decide +kernel
theorem dX12_retime_81 : decode cX12_retime 81 = .ok (.imul, 1) := by decide +kernel
theorem dX12_retime_82 : decode cX12_retime 82 = .ok (.iastore, 1) := by decide +kernel
theorem dX12_retime_83 : decode cX12_retime 83 = .ok (.iinc 3 1, 3) := by decide +kernel
theorem dX12_retime_86 : decode cX12_retime 86 = .ok (.goto (-28), 3) := by decide +kernel
theorem dX12_retime_89 : decode cX12_retime 89 = .ok (.aload_n 0, 1) := by decide +kernel
theorem dX12_retime_90 : decode cX12_retime 90 = .ok (.iload_n 1, 1) := by decide +kernel
theorem dX12_retime_91 : decode cX12_retime 91 = .ok (.iconst (-1), 1) := by decide +kernel
theorem dX12_retime_92 : decode cX12_retime 92 = .ok (.invokevirtual 233, 3) := by decide +kernel
theorem dX12_retime_95 : decode cX12_retime 95 = .ok (.ireturn, 1) := by decide +kernel
def f_X12_retime_58 (N : Nat) (R : Nat → Nat → Nat) : Nat → SI → Nat → Int32 → Int32 → Int32 → Option (Int32 × SI)
  | 0, _, _, _, _, _ => none
  | n + 1, σ, x0, x1, x2, x3 => bd (f_X12_charges N R σ x0 x1) (fun a12 σ12 => if a12 ≤ x3 then (bd (f_X12_window N R σ12 x0 x1 (-1 : Int32)) (fun a14 σ14 => some (a14, σ14))) else (ck ((((14 : Int32) * x1) + (2 : Int32)) + x3) 84 (sq (up σ12 (R x0 13) ((((14 : Int32) * x1) + (2 : Int32)) + x3).toNatClampNeg (x2 * x3)) (fun σ17 => f_X12_retime_58 N R n σ17 x0 x1 x2 (x3 + 1)))))
def f_X12_retime (N : Nat) (R : Nat → Nat → Nat) (σ : SI) (x0 : Nat) (x1 : Int32) (x2 : Int32) : Option (Int32 × SI) := sq (up σ x0 0 (0 : Int32)) (fun σ1 => bd (f_X12_noBlast N R σ1 x0 x1) (fun a2 σ2 => if a2 = 0 then (bd (f_X12_in N R σ2 x2 (0 : Int32) (800 : Int32)) (fun a4 σ4 => if a4 = 0 then (bd (f_X12_throwsIf N R σ4 x0 (1 : Int32) (2 : Int32)) (fun a18 σ18 => if a18 = 0 then (bd (f_X12_hasFired N R σ18 x0 x1) (fun a20 σ20 => bd (f_X12_throwsIf N R σ20 x0 a20 (3 : Int32)) (fun a21 σ21 => if a21 = 0 then (bd (f_X12_keeps N R σ21 x0) (fun _ σ23 => f_X12_retime_58 N R N σ23 x0 x1 x2 (0 : Int32))) else (some ((0 : Int32), σ21))))) else (some ((0 : Int32), σ18)))) else (bd (f_X12_throwsIf N R σ4 x0 (0 : Int32) (2 : Int32)) (fun a6 σ6 => if a6 = 0 then (bd (f_X12_hasFired N R σ6 x0 x1) (fun a8 σ8 => bd (f_X12_throwsIf N R σ8 x0 a8 (3 : Int32)) (fun a9 σ9 => if a9 = 0 then (bd (f_X12_keeps N R σ9 x0) (fun _ σ11 => f_X12_retime_58 N R N σ11 x0 x1 x2 (0 : Int32))) else (some ((0 : Int32), σ9))))) else (some ((0 : Int32), σ6)))))) else (some ((0 : Int32), σ2))))
set_option maxHeartbeats 4000000 in
set_option maxRecDepth 100000 in
theorem w_X12_retime_58 {l : Launch} {g : GL} {p : Program} {e : Jvm.Env} {s : State} {m : MethodId} {args : Array Value} {below : List Frame} {meth : Method} {c : Code} {R : Nat → Nat → Nat} {L : Nat → Nat → Int64} {r : (Int32 × SI)} {N : Nat} (C : Cx l g p s m meth c cX12_retime 4 RX12) (hr : meth.sig.returnType = (some .int)) (hSh : ShR R) : ∀ (n : Nat) (σ : SI) (x0 : Nat) (x1 : Int32) (x2 : Int32) (x3 : Int32), f_X12_retime_58 N R n σ x0 x1 x2 x3 = some r → Ok 194 x0 12 → ∀ (H : Heap) (locs : List Loc) (ls : Array Slot), S2 g s σ R L H locs → lv_has ls 4 [(0, .ref (gb g + x0)), (1, .int x1), (2, .int x2), (3, .int x3)] → W p l e (rmd 5 0 0) s m args below meth c H locs 0 0 (MQ below (Qg g 194 (PI R L r)) args s 0 0 (gA g)) (F0 m 58 ls []) := by
  have hx := C.1
  have hb := C.2.1
  intro n
  induction n with
  | zero =>
    intro σ x0 x1 x2 x3 h
    cases (show (none : Option (Int32 × SI)) = some r from h)
  | succ n ih =>
    intro σ x0 x1 x2 x3 h hx0 H locs ls S hl
    rw [f_X12_retime_58] at h
    refine lv_iload_n hx hb dX12_retime_58 rfl (lv_at hl 3 rfl) ?_
    refine lv_aload_n hx hb dX12_retime_59 rfl (lv_at hl 0 rfl) ?_
    refine lv_iload_n hx hb dX12_retime_60 rfl (lv_at hl 1 rfl) ?_
    obtain ⟨a12, σ12, hc12, h⟩ := bd_el h
    refine x_callVI C S KX12 hx0 (ok_X12_charges (L := L) hc12 hSh hx0) ⟨cd_X12_charges, ni_RX12, ml_RX12_202, in_X12_charges, sl_X12_charges⟩ ⟨by decide, by decide⟩ rfl ⟨by decide, by decide⟩ hl.1 rfl (Nat.le_of_ble_eq_true rfl) ⟨by decide, by decide⟩ dX12_retime_61 (fun H locs S => ?_)
    refine lv_icmp_ge (tgt := 89) hx hb dX12_retime_64 (by decide) (fun c13 => ?_) (fun c13 => ?_)
    · have h := it_p c13 h
      refine lv_aload_n hx hb dX12_retime_89 rfl (lv_at hl 0 rfl) ?_
      refine lv_iload_n hx hb dX12_retime_90 rfl (lv_at hl 1 rfl) ?_
      refine lv_iconst (v := (-1 : Int32)) hx hb dX12_retime_91 (by decide) ?_
      obtain ⟨a14, σ14, hc14, h⟩ := bd_el h
      refine x_callVI C S KX12 hx0 (ok_X12_window (L := L) hc14 hSh hx0) ⟨cd_X12_window, ni_RX12, ml_RX12_233, in_X12_window, sl_X12_window⟩ ⟨by decide, by decide⟩ rfl ⟨by decide, by decide⟩ hl.1 rfl (Nat.le_of_ble_eq_true rfl) ⟨by decide, by decide⟩ dX12_retime_92 (fun H locs S => ?_)
      exact x_iret C S hr h dX12_retime_95
    · have h := it_n c13 h
      refine lv_aload_n hx hb dX12_retime_67 rfl (lv_at hl 0 rfl) ?_
      have hR15 : Ok 194 (R x0 13) 10084 := hSh x0 12 13 10084 hx0.1 rfl
      refine x_getR C S KX12 hx0 13 (by decide) rfl rfl fl_RX12_94 hR15 dX12_retime_68 ?_
      refine lv_bipush (v := (14 : Int32)) hx hb dX12_retime_71 (by decide) ?_
      refine lv_iload_n hx hb dX12_retime_73 rfl (lv_at hl 1 rfl) ?_
      refine lv_imul hx hb dX12_retime_74 ?_
      refine lv_iconst (v := (2 : Int32)) hx hb dX12_retime_75 (by decide) ?_
      refine lv_iadd hx hb dX12_retime_76 ?_
      refine lv_iload_n hx hb dX12_retime_77 rfl (lv_at hl 3 rfl) ?_
      refine lv_iadd hx hb dX12_retime_78 ?_
      refine lv_iload_n hx hb dX12_retime_79 rfl (lv_at hl 2 rfl) ?_
      refine lv_iload_n hx hb dX12_retime_80 rfl (lv_at hl 3 rfl) ?_
      refine lv_imul hx hb dX12_retime_81 ?_
      obtain ⟨hi16, h⟩ := ck_el h
      obtain ⟨σ17, hs17, h⟩ := sq_el h
      refine x_iast (len := 84) C S (by decide) hR15 hi16 dX12_retime_82 hs17 (fun H locs S => ?_)
      refine lv_iinc (v := x3 + 1) (lv' := [(3, .int (x3 + 1)), (0, .ref (gb g + x0)), (1, .int x1), (2, .int x2)]) hx hb dX12_retime_83 hl (k := 3) rfl rfl (by decide) rfl (fun ls hl => ?_)
      refine lv_goto (tgt := 58) hx hb dX12_retime_86 (by decide) ?_
      exact ih σ17 x0 x1 x2 (x3 + 1) h hx0 H locs ls S (lv_sub hl [1, 2, 3, 0] rfl)
set_option maxHeartbeats 4000000 in
set_option maxRecDepth 100000 in
theorem ok_X12_retime {l : Launch} {g : GL} {R : Nat → Nat → Nat} {L : Nat → Nat → Int64} {N : Nat} {σ : SI} {x0 : Nat} {x1 : Int32} {x2 : Int32} {r : (Int32 × SI)} (h : f_X12_retime N R σ x0 x1 x2 = some r) (hSh : ShR R) (hx0 : Ok 194 x0 12) : Ct l g 5 yX12_retime cX12_retime 4 (some .int) 194 194 0 0 [.ref (gb g + x0), .int x1, .int x2] (mkS σ R L) (PI R L r) := by
  refine Met.ofW (cc := cX12_retime) (maxL := 4) (ret := (some .int)) (by decide) rfl ?_
  intro p e s m args below meth c s₁ B hml hv
  obtain ⟨rfl, hE, hLo, hWd⟩ := hv
  have hr : meth.sig.returnType = (some .int) := B.returns
  have C : Cx l g p s m meth c cX12_retime 4 RX12 := ⟨B.exec, B.bytes, hml, findClass_of_methodNamed B.named, hE, hLo, B.notSynchronized⟩
  have S : S2 g s σ R L s.heap [] := ⟨hWd, va_S.rf⟩
  have hx := C.1
  have hb := C.2.1
  have hl := lv_entry ([.ref (gb g + x0), .int x1, .int x2]) (n := 4) (Nat.le_of_ble_eq_true rfl)
  rw [lg_entry_eq]
  generalize (lg_sl ([.ref (gb g + x0), .int x1, .int x2]) ++ List.replicate (4 - (lg_sl ([.ref (gb g + x0), .int x1, .int x2])).length) Slot.unset).toArray = ls at hl ⊢
  have hl : lv_has ls 4 [(0, .ref (gb g + x0)), (1, .int x1), (2, .int x2)] := hl
  generalize hH : s.heap = H at S ⊢
  generalize hlc : ([] : List Loc) = locs at S ⊢
  rw [f_X12_retime] at h
  refine lv_aload_n hx hb dX12_retime_0 rfl (lv_at hl 0 rfl) ?_
  refine lv_iconst (v := (0 : Int32)) hx hb dX12_retime_1 (by decide) ?_
  obtain ⟨σ1, hs1, h⟩ := sq_el h
  refine x_putI C S KX12 hx0 0 (by decide) rfl rfl rfl ⟨rfl, rfl⟩ fl_RX12_3 dX12_retime_2 hs1 (fun H locs S => ?_)
  refine lv_aload_n hx hb dX12_retime_5 rfl (lv_at hl 0 rfl) ?_
  refine lv_iload_n hx hb dX12_retime_6 rfl (lv_at hl 1 rfl) ?_
  obtain ⟨a2, σ2, hc2, h⟩ := bd_el h
  refine x_callVI C S KX12 hx0 (ok_X12_noBlast (L := L) hc2 hSh hx0) ⟨cd_X12_noBlast, ni_RX12, ml_RX12_198, in_X12_noBlast, sl_X12_noBlast⟩ ⟨by decide, by decide⟩ rfl ⟨by decide, by decide⟩ hl.1 rfl (Nat.le_of_ble_eq_true rfl) ⟨by decide, by decide⟩ dX12_retime_7 (fun H locs S => ?_)
  refine lv_if_ne (tgt := 50) hx hb dX12_retime_10 (by decide) (fun c3 => ?_) (fun c3 => ?_)
  · have h := it_n c3 h
    refine lv_iconst (v := (0 : Int32)) hx hb dX12_retime_50 (by decide) ?_
    exact x_iret C S hr h dX12_retime_51
  · have h := it_p c3 h
    refine lv_aload_n hx hb dX12_retime_13 rfl (lv_at hl 0 rfl) ?_
    refine lv_iload_n hx hb dX12_retime_14 rfl (lv_at hl 2 rfl) ?_
    refine lv_iconst (v := (0 : Int32)) hx hb dX12_retime_15 (by decide) ?_
    refine lv_sipush (v := (800 : Int32)) hx hb dX12_retime_16 (by decide) ?_
    obtain ⟨a4, σ4, hc4, h⟩ := bd_el h
    refine x_callSI C S (ok_X12_in (L := L) hc4 hSh) ⟨cd_X12_in, ni_RX12, ml_RX12_71, st_X12_in⟩ ⟨by decide, by decide⟩ rfl ⟨by decide, by decide⟩ hl.1 rfl (Nat.le_of_ble_eq_true rfl) ⟨by decide, by decide⟩ dX12_retime_19 (fun H locs S => ?_)
    refine lv_if_ne (tgt := 29) hx hb dX12_retime_22 (by decide) (fun c5 => ?_) (fun c5 => ?_)
    · have h := it_n c5 h
      refine lv_iconst (v := (0 : Int32)) hx hb dX12_retime_29 (by decide) ?_
      refine lv_iconst (v := (2 : Int32)) hx hb dX12_retime_30 (by decide) ?_
      obtain ⟨a6, σ6, hc6, h⟩ := bd_el h
      refine x_callVI C S KX12 hx0 (ok_X12_throwsIf (L := L) hc6 hSh hx0) ⟨cd_X12_throwsIf, ni_RX12, ml_RX12_185, in_X12_throwsIf, sl_X12_throwsIf⟩ ⟨by decide, by decide⟩ rfl ⟨by decide, by decide⟩ hl.1 rfl (Nat.le_of_ble_eq_true rfl) ⟨by decide, by decide⟩ dX12_retime_31 (fun H locs S => ?_)
      refine lv_if_ne (tgt := 50) hx hb dX12_retime_34 (by decide) (fun c7 => ?_) (fun c7 => ?_)
      · have h := it_n c7 h
        refine lv_iconst (v := (0 : Int32)) hx hb dX12_retime_50 (by decide) ?_
        exact x_iret C S hr h dX12_retime_51
      · have h := it_p c7 h
        refine lv_aload_n hx hb dX12_retime_37 rfl (lv_at hl 0 rfl) ?_
        refine lv_aload_n hx hb dX12_retime_38 rfl (lv_at hl 0 rfl) ?_
        refine lv_iload_n hx hb dX12_retime_39 rfl (lv_at hl 1 rfl) ?_
        obtain ⟨a8, σ8, hc8, h⟩ := bd_el h
        refine x_callVI C S KX12 hx0 (ok_X12_hasFired (L := L) hc8 hSh hx0) ⟨cd_X12_hasFired, ni_RX12, ml_RX12_293, in_X12_hasFired, sl_X12_hasFired⟩ ⟨by decide, by decide⟩ rfl ⟨by decide, by decide⟩ hl.1 rfl (Nat.le_of_ble_eq_true rfl) ⟨by decide, by decide⟩ dX12_retime_40 (fun H locs S => ?_)
        refine lv_iconst (v := (3 : Int32)) hx hb dX12_retime_43 (by decide) ?_
        obtain ⟨a9, σ9, hc9, h⟩ := bd_el h
        refine x_callVI C S KX12 hx0 (ok_X12_throwsIf (L := L) hc9 hSh hx0) ⟨cd_X12_throwsIf, ni_RX12, ml_RX12_185, in_X12_throwsIf, sl_X12_throwsIf⟩ ⟨by decide, by decide⟩ rfl ⟨by decide, by decide⟩ hl.1 rfl (Nat.le_of_ble_eq_true rfl) ⟨by decide, by decide⟩ dX12_retime_44 (fun H locs S => ?_)
        refine lv_if_eq (tgt := 52) hx hb dX12_retime_47 (by decide) (fun c10 => ?_) (fun c10 => ?_)
        · have h := it_p c10 h
          refine lv_aload_n hx hb dX12_retime_52 rfl (lv_at hl 0 rfl) ?_
          obtain ⟨a11, σ11, hc11, h⟩ := bd_el h
          refine x_callVV C S KX12 hx0 (ok_X12_keeps (L := L) hc11 hSh hx0) ⟨cd_X12_keeps, ni_RX12, ml_RX12_311, in_X12_keeps, sl_X12_keeps⟩ ⟨by decide, by decide⟩ rfl ⟨by decide, by decide⟩ hl.1 rfl (Nat.le_of_ble_eq_true rfl) ⟨by decide, by decide⟩ dX12_retime_53 (fun H locs S => ?_)
          refine lv_iconst (v := (0 : Int32)) hx hb dX12_retime_56 (by decide) ?_
          refine lv_istore_n (lv' := [(3, .int (0 : Int32)), (0, .ref (gb g + x0)), (1, .int x1), (2, .int x2)]) hx hb dX12_retime_57 rfl hl (by decide) rfl (fun ls hl => ?_)
          exact w_X12_retime_58 C hr hSh N σ11 x0 x1 x2 (0 : Int32) h hx0 H locs ls S (lv_sub hl [1, 2, 3, 0] rfl)
        · have h := it_n c10 h
          refine lv_iconst (v := (0 : Int32)) hx hb dX12_retime_50 (by decide) ?_
          exact x_iret C S hr h dX12_retime_51
    · have h := it_p c5 h
      refine lv_iconst (v := (1 : Int32)) hx hb dX12_retime_25 (by decide) ?_
      refine lv_goto (tgt := 30) hx hb dX12_retime_26 (by decide) ?_
      refine lv_iconst (v := (2 : Int32)) hx hb dX12_retime_30 (by decide) ?_
      obtain ⟨a18, σ18, hc18, h⟩ := bd_el h
      refine x_callVI C S KX12 hx0 (ok_X12_throwsIf (L := L) hc18 hSh hx0) ⟨cd_X12_throwsIf, ni_RX12, ml_RX12_185, in_X12_throwsIf, sl_X12_throwsIf⟩ ⟨by decide, by decide⟩ rfl ⟨by decide, by decide⟩ hl.1 rfl (Nat.le_of_ble_eq_true rfl) ⟨by decide, by decide⟩ dX12_retime_31 (fun H locs S => ?_)
      refine lv_if_ne (tgt := 50) hx hb dX12_retime_34 (by decide) (fun c19 => ?_) (fun c19 => ?_)
      · have h := it_n c19 h
        refine lv_iconst (v := (0 : Int32)) hx hb dX12_retime_50 (by decide) ?_
        exact x_iret C S hr h dX12_retime_51
      · have h := it_p c19 h
        refine lv_aload_n hx hb dX12_retime_37 rfl (lv_at hl 0 rfl) ?_
        refine lv_aload_n hx hb dX12_retime_38 rfl (lv_at hl 0 rfl) ?_
        refine lv_iload_n hx hb dX12_retime_39 rfl (lv_at hl 1 rfl) ?_
        obtain ⟨a20, σ20, hc20, h⟩ := bd_el h
        refine x_callVI C S KX12 hx0 (ok_X12_hasFired (L := L) hc20 hSh hx0) ⟨cd_X12_hasFired, ni_RX12, ml_RX12_293, in_X12_hasFired, sl_X12_hasFired⟩ ⟨by decide, by decide⟩ rfl ⟨by decide, by decide⟩ hl.1 rfl (Nat.le_of_ble_eq_true rfl) ⟨by decide, by decide⟩ dX12_retime_40 (fun H locs S => ?_)
        refine lv_iconst (v := (3 : Int32)) hx hb dX12_retime_43 (by decide) ?_
        obtain ⟨a21, σ21, hc21, h⟩ := bd_el h
        refine x_callVI C S KX12 hx0 (ok_X12_throwsIf (L := L) hc21 hSh hx0) ⟨cd_X12_throwsIf, ni_RX12, ml_RX12_185, in_X12_throwsIf, sl_X12_throwsIf⟩ ⟨by decide, by decide⟩ rfl ⟨by decide, by decide⟩ hl.1 rfl (Nat.le_of_ble_eq_true rfl) ⟨by decide, by decide⟩ dX12_retime_44 (fun H locs S => ?_)
        refine lv_if_eq (tgt := 52) hx hb dX12_retime_47 (by decide) (fun c22 => ?_) (fun c22 => ?_)
        · have h := it_p c22 h
          refine lv_aload_n hx hb dX12_retime_52 rfl (lv_at hl 0 rfl) ?_
          obtain ⟨a23, σ23, hc23, h⟩ := bd_el h
          refine x_callVV C S KX12 hx0 (ok_X12_keeps (L := L) hc23 hSh hx0) ⟨cd_X12_keeps, ni_RX12, ml_RX12_311, in_X12_keeps, sl_X12_keeps⟩ ⟨by decide, by decide⟩ rfl ⟨by decide, by decide⟩ hl.1 rfl (Nat.le_of_ble_eq_true rfl) ⟨by decide, by decide⟩ dX12_retime_53 (fun H locs S => ?_)
          refine lv_iconst (v := (0 : Int32)) hx hb dX12_retime_56 (by decide) ?_
          refine lv_istore_n (lv' := [(3, .int (0 : Int32)), (0, .ref (gb g + x0)), (1, .int x1), (2, .int x2)]) hx hb dX12_retime_57 rfl hl (by decide) rfl (fun ls hl => ?_)
          exact w_X12_retime_58 C hr hSh N σ23 x0 x1 x2 (0 : Int32) h hx0 H locs ls S (lv_sub hl [1, 2, 3, 0] rfl)
        · have h := it_n c22 h
          refine lv_iconst (v := (0 : Int32)) hx hb dX12_retime_50 (by decide) ?_
          exact x_iret C S hr h dX12_retime_51
theorem dX12_paints_0 : decode cX12_paints 0 = .ok (.iconst 0, 1) := by decide +kernel
theorem dX12_paints_1 : decode cX12_paints 1 = .ok (.istore_n 2, 1) := by decide +kernel
theorem dX12_paints_2 : decode cX12_paints 2 = .ok (.iload_n 2, 1) := by decide +kernel
theorem dX12_paints_3 : decode cX12_paints 3 = .ok (.sipush 1440, 3) := by decide +kernel
theorem dX12_paints_6 : decode cX12_paints 6 = .ok (.if_icmp .ge 16, 3) := by decide +kernel
theorem dX12_paints_9 : decode cX12_paints 9 = .ok (.aload_n 0, 1) := by decide +kernel
theorem dX12_paints_10 : decode cX12_paints 10 = .ok (.getfield 103, 3) := by decide +kernel
theorem dX12_paints_13 : decode cX12_paints 13 = .ok (.iload_n 2, 1) := by decide +kernel
theorem dX12_paints_14 : decode cX12_paints 14 = .ok (.iconst 0, 1) := by decide +kernel
theorem dX12_paints_15 : decode cX12_paints 15 = .ok (.bastore, 1) := by decide +kernel
theorem dX12_paints_16 : decode cX12_paints 16 = .ok (.iinc 2 1, 3) := by decide +kernel
theorem dX12_paints_19 : decode cX12_paints 19 = .ok (.goto (-17), 3) := by decide +kernel
theorem dX12_paints_22 : decode cX12_paints 22 = .ok (.iconst 0, 1) := by decide +kernel
theorem dX12_paints_23 : decode cX12_paints 23 = .ok (.istore_n 2, 1) := by decide +kernel
theorem dX12_paints_24 : decode cX12_paints 24 = .ok (.iload_n 2, 1) := by decide +kernel
theorem dX12_paints_25 : decode cX12_paints 25 = .ok (.aload_n 0, 1) := by decide +kernel
theorem dX12_paints_26 : decode cX12_paints 26 = .ok (.invokevirtual 142, 3) := by decide +kernel
theorem dX12_paints_29 : decode cX12_paints 29 = .ok (.if_icmp .ge 84, 3) := by decide +kernel
theorem dX12_paints_32 : decode cX12_paints 32 = .ok (.aload_n 0, 1) := by decide +kernel
theorem dX12_paints_33 : decode cX12_paints 33 = .ok (.iload_n 2, 1) := by decide +kernel
theorem dX12_paints_34 : decode cX12_paints 34 = .ok (.invokevirtual 281, 3) := by decide +kernel
theorem dX12_paints_37 : decode cX12_paints 37 = .ok (.iconst (-1), 1) := by decide +kernel
theorem dX12_paints_38 : decode cX12_paints 38 = .ok (.if_icmp .eq 69, 3) := by decide +kernel
theorem dX12_paints_41 : decode cX12_paints 41 = .ok (.aload_n 0, 1) := by decide +kernel
theorem dX12_paints_42 : decode cX12_paints 42 = .ok (.iload_n 2, 1) := by decide +kernel
theorem dX12_paints_43 : decode cX12_paints 43 = .ok (.iload_n 1, 1) := by decide +kernel
theorem dX12_paints_44 : decode cX12_paints 44 = .ok (.invokevirtual 254, 3) := by decide +kernel
theorem dX12_paints_47 : decode cX12_paints 47 = .ok (.ifCond .ne 6, 3) := by decide +kernel
theorem dX12_paints_50 : decode cX12_paints 50 = .ok (.goto 57, 3) := by decide +kernel
theorem dX12_paints_53 : decode cX12_paints 53 = .ok (.iconst 0, 1) := by decide +kernel
theorem dX12_paints_54 : decode cX12_paints 54 = .ok (.aload_n 0, 1) := by decide +kernel
theorem dX12_paints_55 : decode cX12_paints 55 = .ok (.iload_n 2, 1) := by decide +kernel
theorem dX12_paints_56 : decode cX12_paints 56 = .ok (.invokevirtual 281, 3) := by decide +kernel
theorem dX12_paints_59 : decode cX12_paints 59 = .ok (.aload_n 0, 1) := by decide +kernel
theorem dX12_paints_60 : decode cX12_paints 60 = .ok (.getfield 88, 3) := by decide +kernel
theorem dX12_paints_63 : decode cX12_paints 63 = .ok (.bipush 6, 2) := by decide +kernel
theorem dX12_paints_65 : decode cX12_paints 65 = .ok (.iaload, 1) := by decide +kernel
theorem dX12_paints_66 : decode cX12_paints 66 = .ok (.isub, 1) := by decide +kernel
theorem dX12_paints_67 : decode cX12_paints 67 = .ok (.invokestatic 220, 3) := by decide +kernel
theorem dX12_paints_70 : decode cX12_paints 70 = .ok (.istore_n 3, 1) := by decide +kernel
theorem dX12_paints_71 : decode cX12_paints 71 = .ok (.iload_n 3, 1) := by decide +kernel
theorem dX12_paints_72 : decode cX12_paints 72 = .ok (.sipush 1440, 3) := by decide +kernel
theorem dX12_paints_75 : decode cX12_paints 75 = .ok (.aload_n 0, 1) := by decide +kernel
theorem dX12_paints_76 : decode cX12_paints 76 = .ok (.iload_n 2, 1) := by decide +kernel
theorem dX12_paints_77 : decode cX12_paints 77 = .ok (.invokevirtual 281, 3) := by decide +kernel
theorem dX12_paints_80 : decode cX12_paints 80 = .ok (.aload_n 0, 1) := by decide +kernel
theorem dX12_paints_81 : decode cX12_paints 81 = .ok (.getfield 88, 3) := by decide +kernel
theorem dX12_paints_84 : decode cX12_paints 84 = .ok (.bipush 7, 2) := by decide +kernel
theorem dX12_paints_86 : decode cX12_paints 86 = .ok (.iaload, 1) := by decide +kernel
theorem dX12_paints_87 : decode cX12_paints 87 = .ok (.iadd, 1) := by decide +kernel
theorem dX12_paints_88 : decode cX12_paints 88 = .ok (.invokestatic 215, 3) := by decide +kernel
theorem dX12_paints_91 : decode cX12_paints 91 = .ok (.if_icmp .ge 16, 3) := by decide +kernel
theorem dX12_paints_94 : decode cX12_paints 94 = .ok (.aload_n 0, 1) := by decide +kernel
theorem dX12_paints_95 : decode cX12_paints 95 = .ok (.getfield 103, 3) := by decide +kernel
theorem dX12_paints_98 : decode cX12_paints 98 = .ok (.iload_n 3, 1) := by decide +kernel
theorem dX12_paints_99 : decode cX12_paints 99 = .ok (.iconst 1, 1) := by decide +kernel
theorem dX12_paints_100 : decode cX12_paints 100 = .ok (.bastore, 1) := by decide +kernel
theorem dX12_paints_101 : decode cX12_paints 101 = .ok (.iinc 3 1, 3) := by decide +kernel
theorem dX12_paints_104 : decode cX12_paints 104 = .ok (.goto (-33), 3) := by decide +kernel
theorem dX12_paints_107 : decode cX12_paints 107 = .ok (.iinc 2 1, 3) := by decide +kernel
theorem dX12_paints_110 : decode cX12_paints 110 = .ok (.goto (-86), 3) := by decide +kernel
theorem dX12_paints_113 : decode cX12_paints 113 = .ok (.return_, 1) := by decide +kernel
def f_X12_paints_107 (N : Nat) (R : Nat → Nat → Nat) (k24 : SI → Nat → Int32 → Int32 → Option (Unit × SI)) (σ : SI) (x0 : Nat) (x1 : Int32) (x2 : Int32) : Option (Unit × SI) := k24 σ x0 x1 (x2 + 1)
def f_X12_paints_71 (N : Nat) (R : Nat → Nat → Nat) (k24 : SI → Nat → Int32 → Int32 → Option (Unit × SI)) : Nat → SI → Nat → Int32 → Int32 → Int32 → Option (Unit × SI)
  | 0, _, _, _, _, _ => none
  | n + 1, σ, x0, x1, x2, x3 => bd (f_X12_time N R σ x0 x2) (fun a11 σ11 => ck (7 : Int32) 417 (if (if (a11 + (σ11 (R x0 11) (7 : Int32).toNatClampNeg)) < (1440 : Int32) then (a11 + (σ11 (R x0 11) (7 : Int32).toNatClampNeg)) else (1440 : Int32)) ≤ x3 then (f_X12_paints_107 N R k24 σ11 x0 x1 x2) else (ck x3 1440 (sq (up σ11 (R x0 17) x3.toNatClampNeg (vp_nar .boolean (1 : Int32))) (fun σ17 => f_X12_paints_71 N R k24 n σ17 x0 x1 x2 (x3 + 1))))))
def f_X12_paints_24 (N : Nat) (R : Nat → Nat → Nat) : Nat → SI → Nat → Int32 → Int32 → Option (Unit × SI)
  | 0, _, _, _, _ => none
  | n + 1, σ, x0, x1, x2 => bd (f_X12_blasts N R σ x0) (fun a2 σ2 => if a2 ≤ x2 then (some ((), σ2)) else (bd (f_X12_time N R σ2 x0 x2) (fun a4 σ4 => if a4 = (-1 : Int32) then (f_X12_paints_107 N R (fun σ x0 x1 x2 => f_X12_paints_24 N R n σ x0 x1 x2) σ4 x0 x1 x2) else (bd (f_X12_isShut N R σ4 x0 x2 x1) (fun a6 σ6 => if a6 = 0 then (f_X12_paints_107 N R (fun σ x0 x1 x2 => f_X12_paints_24 N R n σ x0 x1 x2) σ6 x0 x1 x2) else (bd (f_X12_time N R σ6 x0 x2) (fun a8 σ8 => ck (6 : Int32) 417 (f_X12_paints_71 N R (fun σ x0 x1 x2 => f_X12_paints_24 N R n σ x0 x1 x2) N σ8 x0 x1 x2 (if (0 : Int32) < (a8 - (σ8 (R x0 11) (6 : Int32).toNatClampNeg)) then (a8 - (σ8 (R x0 11) (6 : Int32).toNatClampNeg)) else (0 : Int32))))))))))
def f_X12_paints_2 (N : Nat) (R : Nat → Nat → Nat) : Nat → SI → Nat → Int32 → Int32 → Option (Unit × SI)
  | 0, _, _, _, _ => none
  | n + 1, σ, x0, x1, x2 => if (1440 : Int32) ≤ x2 then (f_X12_paints_24 N R N σ x0 x1 (0 : Int32)) else (ck x2 1440 (sq (up σ (R x0 17) x2.toNatClampNeg (vp_nar .boolean (0 : Int32))) (fun σ20 => f_X12_paints_2 N R n σ20 x0 x1 (x2 + 1))))
def f_X12_paints (N : Nat) (R : Nat → Nat → Nat) (σ : SI) (x0 : Nat) (x1 : Int32) : Option (Unit × SI) := f_X12_paints_2 N R N σ x0 x1 (0 : Int32)
set_option maxHeartbeats 4000000 in
set_option maxRecDepth 100000 in
theorem w_X12_paints_107 {l : Launch} {g : GL} {p : Program} {e : Jvm.Env} {s : State} {m : MethodId} {args : Array Value} {below : List Frame} {meth : Method} {c : Code} {R : Nat → Nat → Nat} {L : Nat → Nat → Int64} {r : (Unit × SI)} {N : Nat} {k24 : SI → Nat → Int32 → Int32 → Option (Unit × SI)} (C : Cx l g p s m meth c cX12_paints 4 RX12) (hr : meth.sig.returnType = none) (hSh : ShR R) (hk24 : ∀ (σ : SI) (x0 : Nat) (x1 : Int32) (x2 : Int32), k24 σ x0 x1 x2 = some r → Ok 194 x0 12 → ∀ (H : Heap) (locs : List Loc) (ls : Array Slot), S2 g s σ R L H locs → lv_has ls 4 [(0, .ref (gb g + x0)), (1, .int x1), (2, .int x2)] → W p l e (rmd 4 0 0) s m args below meth c H locs 0 0 (MQ below (Qg g 194 (PV R L r)) args s 0 0 (gA g)) (F0 m 24 ls [])) : ∀ (σ : SI) (x0 : Nat) (x1 : Int32) (x2 : Int32), f_X12_paints_107 N R k24 σ x0 x1 x2 = some r → Ok 194 x0 12 → ∀ (H : Heap) (locs : List Loc) (ls : Array Slot), S2 g s σ R L H locs → lv_has ls 4 [(0, .ref (gb g + x0)), (1, .int x1), (2, .int x2)] → W p l e (rmd 4 0 0) s m args below meth c H locs 0 0 (MQ below (Qg g 194 (PV R L r)) args s 0 0 (gA g)) (F0 m 107 ls []) := by
  have hx := C.1
  have hb := C.2.1
  intro σ x0 x1 x2 h hx0 H locs ls S hl
  rw [f_X12_paints_107] at h
  refine lv_iinc (v := x2 + 1) (lv' := [(2, .int (x2 + 1)), (0, .ref (gb g + x0)), (1, .int x1)]) hx hb dX12_paints_107 hl (k := 2) rfl rfl (by decide) rfl (fun ls hl => ?_)
  refine lv_goto (tgt := 24) hx hb dX12_paints_110 (by decide) ?_
  exact hk24 σ x0 x1 (x2 + 1) h hx0 H locs ls S (lv_sub hl [1, 2, 0] rfl)
set_option maxHeartbeats 4000000 in
set_option maxRecDepth 100000 in
theorem w_X12_paints_71 {l : Launch} {g : GL} {p : Program} {e : Jvm.Env} {s : State} {m : MethodId} {args : Array Value} {below : List Frame} {meth : Method} {c : Code} {R : Nat → Nat → Nat} {L : Nat → Nat → Int64} {r : (Unit × SI)} {N : Nat} {k24 : SI → Nat → Int32 → Int32 → Option (Unit × SI)} (C : Cx l g p s m meth c cX12_paints 4 RX12) (hr : meth.sig.returnType = none) (hSh : ShR R) (hk24 : ∀ (σ : SI) (x0 : Nat) (x1 : Int32) (x2 : Int32), k24 σ x0 x1 x2 = some r → Ok 194 x0 12 → ∀ (H : Heap) (locs : List Loc) (ls : Array Slot), S2 g s σ R L H locs → lv_has ls 4 [(0, .ref (gb g + x0)), (1, .int x1), (2, .int x2)] → W p l e (rmd 4 0 0) s m args below meth c H locs 0 0 (MQ below (Qg g 194 (PV R L r)) args s 0 0 (gA g)) (F0 m 24 ls [])) : ∀ (n : Nat) (σ : SI) (x0 : Nat) (x1 : Int32) (x2 : Int32) (x3 : Int32), f_X12_paints_71 N R k24 n σ x0 x1 x2 x3 = some r → Ok 194 x0 12 → ∀ (H : Heap) (locs : List Loc) (ls : Array Slot), S2 g s σ R L H locs → lv_has ls 4 [(0, .ref (gb g + x0)), (1, .int x1), (2, .int x2), (3, .int x3)] → W p l e (rmd 4 0 0) s m args below meth c H locs 0 0 (MQ below (Qg g 194 (PV R L r)) args s 0 0 (gA g)) (F0 m 71 ls []) := by
  have hx := C.1
  have hb := C.2.1
  intro n
  induction n with
  | zero =>
    intro σ x0 x1 x2 x3 h
    cases (show (none : Option (Unit × SI)) = some r from h)
  | succ n ih =>
    intro σ x0 x1 x2 x3 h hx0 H locs ls S hl
    rw [f_X12_paints_71] at h
    refine lv_iload_n hx hb dX12_paints_71 rfl (lv_at hl 3 rfl) ?_
    refine lv_sipush (v := (1440 : Int32)) hx hb dX12_paints_72 (by decide) ?_
    refine lv_aload_n hx hb dX12_paints_75 rfl (lv_at hl 0 rfl) ?_
    refine lv_iload_n hx hb dX12_paints_76 rfl (lv_at hl 2 rfl) ?_
    obtain ⟨a11, σ11, hc11, h⟩ := bd_el h
    refine x_callVI C S KX12 hx0 (ok_X12_time (L := L) hc11 hSh hx0) ⟨cd_X12_time, ni_RX12, ml_RX12_281, in_X12_time, sl_X12_time⟩ ⟨by decide, by decide⟩ rfl ⟨by decide, by decide⟩ hl.1 rfl (Nat.le_of_ble_eq_true rfl) ⟨by decide, by decide⟩ dX12_paints_77 (fun H locs S => ?_)
    refine lv_aload_n hx hb dX12_paints_80 rfl (lv_at hl 0 rfl) ?_
    have hR12 : Ok 194 (R x0 11) 10417 := hSh x0 12 11 10417 hx0.1 rfl
    refine x_getR C S KX12 hx0 11 (by decide) rfl rfl fl_RX12_88 hR12 dX12_paints_81 ?_
    refine lv_bipush (v := (7 : Int32)) hx hb dX12_paints_84 (by decide) ?_
    obtain ⟨hi13, h⟩ := ck_el h
    refine x_iald (len := 417) C S (by decide) hR12 hi13 dX12_paints_86 ?_
    refine lv_iadd hx hb dX12_paints_87 ?_
    refine x_min C hl.1 ⟨ml_RX12_215, st_math_min, ni_math, cd_math_min⟩ (Nat.le_of_ble_eq_true rfl) (Nat.le_of_ble_eq_true rfl) (Nat.le_of_ble_eq_true rfl) (Nat.le_of_ble_eq_true rfl) dX12_paints_88 ?_
    refine lv_icmp_ge (tgt := 107) hx hb dX12_paints_91 (by decide) (fun c14 => ?_) (fun c14 => ?_)
    · have h := it_p c14 h
      exact w_X12_paints_107 C hr hSh hk24 σ11 x0 x1 x2 h hx0 H locs ls S (lv_sub hl [0, 1, 2] rfl)
    · have h := it_n c14 h
      refine lv_aload_n hx hb dX12_paints_94 rfl (lv_at hl 0 rfl) ?_
      have hR15 : Ok 194 (R x0 17) 31440 := hSh x0 12 17 31440 hx0.1 rfl
      refine x_getR C S KX12 hx0 17 (by decide) rfl rfl fl_RX12_103 hR15 dX12_paints_95 ?_
      refine lv_iload_n hx hb dX12_paints_98 rfl (lv_at hl 3 rfl) ?_
      refine lv_iconst (v := (1 : Int32)) hx hb dX12_paints_99 (by decide) ?_
      obtain ⟨hi16, h⟩ := ck_el h
      obtain ⟨σ17, hs17, h⟩ := sq_el h
      refine x_zast (len := 1440) C S (by decide) hR15 hi16 dX12_paints_100 hs17 (fun H locs S => ?_)
      refine lv_iinc (v := x3 + 1) (lv' := [(3, .int (x3 + 1)), (0, .ref (gb g + x0)), (1, .int x1), (2, .int x2)]) hx hb dX12_paints_101 hl (k := 3) rfl rfl (by decide) rfl (fun ls hl => ?_)
      refine lv_goto (tgt := 71) hx hb dX12_paints_104 (by decide) ?_
      exact ih σ17 x0 x1 x2 (x3 + 1) h hx0 H locs ls S (lv_sub hl [1, 2, 3, 0] rfl)
set_option maxHeartbeats 4000000 in
set_option maxRecDepth 100000 in
theorem w_X12_paints_24 {l : Launch} {g : GL} {p : Program} {e : Jvm.Env} {s : State} {m : MethodId} {args : Array Value} {below : List Frame} {meth : Method} {c : Code} {R : Nat → Nat → Nat} {L : Nat → Nat → Int64} {r : (Unit × SI)} {N : Nat} (C : Cx l g p s m meth c cX12_paints 4 RX12) (hr : meth.sig.returnType = none) (hSh : ShR R) : ∀ (n : Nat) (σ : SI) (x0 : Nat) (x1 : Int32) (x2 : Int32), f_X12_paints_24 N R n σ x0 x1 x2 = some r → Ok 194 x0 12 → ∀ (H : Heap) (locs : List Loc) (ls : Array Slot), S2 g s σ R L H locs → lv_has ls 4 [(0, .ref (gb g + x0)), (1, .int x1), (2, .int x2)] → W p l e (rmd 4 0 0) s m args below meth c H locs 0 0 (MQ below (Qg g 194 (PV R L r)) args s 0 0 (gA g)) (F0 m 24 ls []) := by
  have hx := C.1
  have hb := C.2.1
  intro n
  induction n with
  | zero =>
    intro σ x0 x1 x2 h
    cases (show (none : Option (Unit × SI)) = some r from h)
  | succ n ih =>
    intro σ x0 x1 x2 h hx0 H locs ls S hl
    rw [f_X12_paints_24] at h
    refine lv_iload_n hx hb dX12_paints_24 rfl (lv_at hl 2 rfl) ?_
    refine lv_aload_n hx hb dX12_paints_25 rfl (lv_at hl 0 rfl) ?_
    obtain ⟨a2, σ2, hc2, h⟩ := bd_el h
    refine x_callVI C S KX12 hx0 (ok_X12_blasts (L := L) hc2 hSh hx0) ⟨cd_X12_blasts, ni_RX12, ml_RX12_142, in_X12_blasts, sl_X12_blasts⟩ ⟨by decide, by decide⟩ rfl ⟨by decide, by decide⟩ hl.1 rfl (Nat.le_of_ble_eq_true rfl) ⟨by decide, by decide⟩ dX12_paints_26 (fun H locs S => ?_)
    refine lv_icmp_ge (tgt := 113) hx hb dX12_paints_29 (by decide) (fun c3 => ?_) (fun c3 => ?_)
    · have h := it_p c3 h
      exact x_vret C S hr h dX12_paints_113
    · have h := it_n c3 h
      refine lv_aload_n hx hb dX12_paints_32 rfl (lv_at hl 0 rfl) ?_
      refine lv_iload_n hx hb dX12_paints_33 rfl (lv_at hl 2 rfl) ?_
      obtain ⟨a4, σ4, hc4, h⟩ := bd_el h
      refine x_callVI C S KX12 hx0 (ok_X12_time (L := L) hc4 hSh hx0) ⟨cd_X12_time, ni_RX12, ml_RX12_281, in_X12_time, sl_X12_time⟩ ⟨by decide, by decide⟩ rfl ⟨by decide, by decide⟩ hl.1 rfl (Nat.le_of_ble_eq_true rfl) ⟨by decide, by decide⟩ dX12_paints_34 (fun H locs S => ?_)
      refine lv_iconst (v := (-1 : Int32)) hx hb dX12_paints_37 (by decide) ?_
      refine lv_icmp_eq (tgt := 107) hx hb dX12_paints_38 (by decide) (fun c5 => ?_) (fun c5 => ?_)
      · have h := it_p c5 h
        exact w_X12_paints_107 C hr hSh ih σ4 x0 x1 x2 h hx0 H locs ls S (lv_sub hl [0, 1, 2] rfl)
      · have h := it_n c5 h
        refine lv_aload_n hx hb dX12_paints_41 rfl (lv_at hl 0 rfl) ?_
        refine lv_iload_n hx hb dX12_paints_42 rfl (lv_at hl 2 rfl) ?_
        refine lv_iload_n hx hb dX12_paints_43 rfl (lv_at hl 1 rfl) ?_
        obtain ⟨a6, σ6, hc6, h⟩ := bd_el h
        refine x_callVI C S KX12 hx0 (ok_X12_isShut (L := L) hc6 hSh hx0) ⟨cd_X12_isShut, ni_RX12, ml_RX12_254, in_X12_isShut, sl_X12_isShut⟩ ⟨by decide, by decide⟩ rfl ⟨by decide, by decide⟩ hl.1 rfl (Nat.le_of_ble_eq_true rfl) ⟨by decide, by decide⟩ dX12_paints_44 (fun H locs S => ?_)
        refine lv_if_ne (tgt := 53) hx hb dX12_paints_47 (by decide) (fun c7 => ?_) (fun c7 => ?_)
        · have h := it_n c7 h
          refine lv_iconst (v := (0 : Int32)) hx hb dX12_paints_53 (by decide) ?_
          refine lv_aload_n hx hb dX12_paints_54 rfl (lv_at hl 0 rfl) ?_
          refine lv_iload_n hx hb dX12_paints_55 rfl (lv_at hl 2 rfl) ?_
          obtain ⟨a8, σ8, hc8, h⟩ := bd_el h
          refine x_callVI C S KX12 hx0 (ok_X12_time (L := L) hc8 hSh hx0) ⟨cd_X12_time, ni_RX12, ml_RX12_281, in_X12_time, sl_X12_time⟩ ⟨by decide, by decide⟩ rfl ⟨by decide, by decide⟩ hl.1 rfl (Nat.le_of_ble_eq_true rfl) ⟨by decide, by decide⟩ dX12_paints_56 (fun H locs S => ?_)
          refine lv_aload_n hx hb dX12_paints_59 rfl (lv_at hl 0 rfl) ?_
          have hR9 : Ok 194 (R x0 11) 10417 := hSh x0 12 11 10417 hx0.1 rfl
          refine x_getR C S KX12 hx0 11 (by decide) rfl rfl fl_RX12_88 hR9 dX12_paints_60 ?_
          refine lv_bipush (v := (6 : Int32)) hx hb dX12_paints_63 (by decide) ?_
          obtain ⟨hi10, h⟩ := ck_el h
          refine x_iald (len := 417) C S (by decide) hR9 hi10 dX12_paints_65 ?_
          refine lv_isub hx hb dX12_paints_66 ?_
          refine x_max C hl.1 ⟨ml_RX12_220, st_math_max, ni_math, cd_math_max⟩ (Nat.le_of_ble_eq_true rfl) (Nat.le_of_ble_eq_true rfl) (Nat.le_of_ble_eq_true rfl) (Nat.le_of_ble_eq_true rfl) dX12_paints_67 ?_
          refine lv_istore_n (lv' := [(3, .int (if (0 : Int32) < (a8 - (σ8 (R x0 11) (6 : Int32).toNatClampNeg)) then (a8 - (σ8 (R x0 11) (6 : Int32).toNatClampNeg)) else (0 : Int32))), (0, .ref (gb g + x0)), (1, .int x1), (2, .int x2)]) hx hb dX12_paints_70 rfl hl (by decide) rfl (fun ls hl => ?_)
          exact w_X12_paints_71 C hr hSh ih N σ8 x0 x1 x2 (if (0 : Int32) < (a8 - (σ8 (R x0 11) (6 : Int32).toNatClampNeg)) then (a8 - (σ8 (R x0 11) (6 : Int32).toNatClampNeg)) else (0 : Int32)) h hx0 H locs ls S (lv_sub hl [1, 2, 3, 0] rfl)
        · have h := it_p c7 h
          refine lv_goto (tgt := 107) hx hb dX12_paints_50 (by decide) ?_
          exact w_X12_paints_107 C hr hSh ih σ6 x0 x1 x2 h hx0 H locs ls S (lv_sub hl [0, 1, 2] rfl)
set_option maxHeartbeats 4000000 in
set_option maxRecDepth 100000 in
theorem w_X12_paints_2 {l : Launch} {g : GL} {p : Program} {e : Jvm.Env} {s : State} {m : MethodId} {args : Array Value} {below : List Frame} {meth : Method} {c : Code} {R : Nat → Nat → Nat} {L : Nat → Nat → Int64} {r : (Unit × SI)} {N : Nat} (C : Cx l g p s m meth c cX12_paints 4 RX12) (hr : meth.sig.returnType = none) (hSh : ShR R) : ∀ (n : Nat) (σ : SI) (x0 : Nat) (x1 : Int32) (x2 : Int32), f_X12_paints_2 N R n σ x0 x1 x2 = some r → Ok 194 x0 12 → ∀ (H : Heap) (locs : List Loc) (ls : Array Slot), S2 g s σ R L H locs → lv_has ls 4 [(0, .ref (gb g + x0)), (1, .int x1), (2, .int x2)] → W p l e (rmd 4 0 0) s m args below meth c H locs 0 0 (MQ below (Qg g 194 (PV R L r)) args s 0 0 (gA g)) (F0 m 2 ls []) := by
  have hx := C.1
  have hb := C.2.1
  intro n
  induction n with
  | zero =>
    intro σ x0 x1 x2 h
    cases (show (none : Option (Unit × SI)) = some r from h)
  | succ n ih =>
    intro σ x0 x1 x2 h hx0 H locs ls S hl
    rw [f_X12_paints_2] at h
    refine lv_iload_n hx hb dX12_paints_2 rfl (lv_at hl 2 rfl) ?_
    refine lv_sipush (v := (1440 : Int32)) hx hb dX12_paints_3 (by decide) ?_
    refine lv_icmp_ge (tgt := 22) hx hb dX12_paints_6 (by decide) (fun c1 => ?_) (fun c1 => ?_)
    · have h := it_p c1 h
      refine lv_iconst (v := (0 : Int32)) hx hb dX12_paints_22 (by decide) ?_
      refine lv_istore_n (lv' := [(2, .int (0 : Int32)), (0, .ref (gb g + x0)), (1, .int x1)]) hx hb dX12_paints_23 rfl hl (by decide) rfl (fun ls hl => ?_)
      exact w_X12_paints_24 C hr hSh N σ x0 x1 (0 : Int32) h hx0 H locs ls S (lv_sub hl [1, 2, 0] rfl)
    · have h := it_n c1 h
      refine lv_aload_n hx hb dX12_paints_9 rfl (lv_at hl 0 rfl) ?_
      have hR18 : Ok 194 (R x0 17) 31440 := hSh x0 12 17 31440 hx0.1 rfl
      refine x_getR C S KX12 hx0 17 (by decide) rfl rfl fl_RX12_103 hR18 dX12_paints_10 ?_
      refine lv_iload_n hx hb dX12_paints_13 rfl (lv_at hl 2 rfl) ?_
      refine lv_iconst (v := (0 : Int32)) hx hb dX12_paints_14 (by decide) ?_
      obtain ⟨hi19, h⟩ := ck_el h
      obtain ⟨σ20, hs20, h⟩ := sq_el h
      refine x_zast (len := 1440) C S (by decide) hR18 hi19 dX12_paints_15 hs20 (fun H locs S => ?_)
      refine lv_iinc (v := x2 + 1) (lv' := [(2, .int (x2 + 1)), (0, .ref (gb g + x0)), (1, .int x1)]) hx hb dX12_paints_16 hl (k := 2) rfl rfl (by decide) rfl (fun ls hl => ?_)
      refine lv_goto (tgt := 2) hx hb dX12_paints_19 (by decide) ?_
      exact ih σ20 x0 x1 (x2 + 1) h hx0 H locs ls S (lv_sub hl [1, 2, 0] rfl)
set_option maxHeartbeats 4000000 in
set_option maxRecDepth 100000 in
theorem ok_X12_paints {l : Launch} {g : GL} {R : Nat → Nat → Nat} {L : Nat → Nat → Int64} {N : Nat} {σ : SI} {x0 : Nat} {x1 : Int32} {r : (Unit × SI)} (h : f_X12_paints N R σ x0 x1 = some r) (hSh : ShR R) (hx0 : Ok 194 x0 12) : Ct l g 4 yX12_paints cX12_paints 4 none 194 194 0 0 [.ref (gb g + x0), .int x1] (mkS σ R L) (PV R L r) := by
  refine Met.ofW (cc := cX12_paints) (maxL := 4) (ret := none) (by decide) rfl ?_
  intro p e s m args below meth c s₁ B hml hv
  obtain ⟨rfl, hE, hLo, hWd⟩ := hv
  have hr : meth.sig.returnType = none := B.returns
  have C : Cx l g p s m meth c cX12_paints 4 RX12 := ⟨B.exec, B.bytes, hml, findClass_of_methodNamed B.named, hE, hLo, B.notSynchronized⟩
  have S : S2 g s σ R L s.heap [] := ⟨hWd, va_S.rf⟩
  have hx := C.1
  have hb := C.2.1
  have hl := lv_entry ([.ref (gb g + x0), .int x1]) (n := 4) (Nat.le_of_ble_eq_true rfl)
  rw [lg_entry_eq]
  generalize (lg_sl ([.ref (gb g + x0), .int x1]) ++ List.replicate (4 - (lg_sl ([.ref (gb g + x0), .int x1])).length) Slot.unset).toArray = ls at hl ⊢
  have hl : lv_has ls 4 [(0, .ref (gb g + x0)), (1, .int x1)] := hl
  generalize hH : s.heap = H at S ⊢
  generalize hlc : ([] : List Loc) = locs at S ⊢
  rw [f_X12_paints] at h
  refine lv_iconst (v := (0 : Int32)) hx hb dX12_paints_0 (by decide) ?_
  refine lv_istore_n (lv' := [(2, .int (0 : Int32)), (0, .ref (gb g + x0)), (1, .int x1)]) hx hb dX12_paints_1 rfl hl (by decide) rfl (fun ls hl => ?_)
  exact w_X12_paints_2 C hr hSh N σ x0 x1 (0 : Int32) h hx0 H locs ls S (lv_sub hl [1, 2, 0] rfl)
theorem dX12_paintedIn_0 : decode cX12_paintedIn 0 = .ok (.iconst 0, 1) := by decide +kernel
theorem dX12_paintedIn_1 : decode cX12_paintedIn 1 = .ok (.istore_n 3, 1) := by decide +kernel
theorem dX12_paintedIn_2 : decode cX12_paintedIn 2 = .ok (.iload_n 1, 1) := by decide +kernel
theorem dX12_paintedIn_3 : decode cX12_paintedIn 3 = .ok (.istore 4, 2) := by decide +kernel
theorem dX12_paintedIn_5 : decode cX12_paintedIn 5 = .ok (.iload 4, 2) := by decide +kernel
theorem dX12_paintedIn_7 : decode cX12_paintedIn 7 = .ok (.iload_n 2, 1) := by decide +kernel
theorem dX12_paintedIn_8 : decode cX12_paintedIn 8 = .ok (.if_icmp .gt 27, 3) := by decide +kernel
theorem dX12_paintedIn_11 : decode cX12_paintedIn 11 = .ok (.iload_n 3, 1) := by decide +kernel
theorem dX12_paintedIn_12 : decode cX12_paintedIn 12 = .ok (.aload_n 0, 1) := by decide +kernel
theorem dX12_paintedIn_13 : decode cX12_paintedIn 13 = .ok (.getfield 103, 3) := by decide +kernel
theorem dX12_paintedIn_16 : decode cX12_paintedIn 16 = .ok (.iload 4, 2) := by decide +kernel
theorem dX12_paintedIn_18 : decode cX12_paintedIn 18 = .ok (.baload, 1) := by decide +kernel
theorem dX12_paintedIn_19 : decode cX12_paintedIn 19 = .ok (.ifCond .eq 7, 3) := by decide +kernel
theorem dX12_paintedIn_22 : decode cX12_paintedIn 22 = .ok (.iconst 1, 1) := by decide +kernel
theorem dX12_paintedIn_23 : decode cX12_paintedIn 23 = .ok (.goto 4, 3) := by decide +kernel
theorem dX12_paintedIn_26 : decode cX12_paintedIn 26 = .ok (.iconst 0, 1) := by decide +kernel
theorem dX12_paintedIn_27 : decode cX12_paintedIn 27 = .ok (.iadd, 1) := by decide +kernel
theorem dX12_paintedIn_28 : decode cX12_paintedIn 28 = .ok (.istore_n 3, 1) := by decide +kernel
theorem dX12_paintedIn_29 : decode cX12_paintedIn 29 = .ok (.iinc 4 1, 3) := by decide +kernel
theorem dX12_paintedIn_32 : decode cX12_paintedIn 32 = .ok (.goto (-27), 3) := by decide +kernel
theorem dX12_paintedIn_35 : decode cX12_paintedIn 35 = .ok (.iload_n 3, 1) := by decide +kernel
theorem dX12_paintedIn_36 : decode cX12_paintedIn 36 = .ok (.ireturn, 1) := by decide +kernel
def f_X12_paintedIn_5 (N : Nat) (R : Nat → Nat → Nat) : Nat → SI → Nat → Int32 → Int32 → Int32 → Option (Int32 × SI)
  | 0, _, _, _, _, _ => none
  | n + 1, σ, x0, x2, x3, x4 => if x2 < x4 then (some (x3, σ)) else (ck x4 1440 (if (σ (R x0 17) x4.toNatClampNeg) = 0 then (f_X12_paintedIn_5 N R n σ x0 x2 (x3 + (0 : Int32)) (x4 + 1)) else (f_X12_paintedIn_5 N R n σ x0 x2 (x3 + (1 : Int32)) (x4 + 1))))
def f_X12_paintedIn (N : Nat) (R : Nat → Nat → Nat) (σ : SI) (x0 : Nat) (x1 : Int32) (x2 : Int32) : Option (Int32 × SI) := f_X12_paintedIn_5 N R N σ x0 x2 (0 : Int32) x1
set_option maxHeartbeats 4000000 in
set_option maxRecDepth 100000 in
theorem w_X12_paintedIn_5 {l : Launch} {g : GL} {p : Program} {e : Jvm.Env} {s : State} {m : MethodId} {args : Array Value} {below : List Frame} {meth : Method} {c : Code} {R : Nat → Nat → Nat} {L : Nat → Nat → Int64} {r : (Int32 × SI)} {N : Nat} (C : Cx l g p s m meth c cX12_paintedIn 5 RX12) (hr : meth.sig.returnType = (some .int)) (hSh : ShR R) : ∀ (n : Nat) (σ : SI) (x0 : Nat) (x2 : Int32) (x3 : Int32) (x4 : Int32), f_X12_paintedIn_5 N R n σ x0 x2 x3 x4 = some r → Ok 194 x0 12 → ∀ (H : Heap) (locs : List Loc) (ls : Array Slot), S2 g s σ R L H locs → lv_has ls 5 [(0, .ref (gb g + x0)), (2, .int x2), (3, .int x3), (4, .int x4)] → W p l e (rmd 1 0 0) s m args below meth c H locs 0 0 (MQ below (Qg g 194 (PI R L r)) args s 0 0 (gA g)) (F0 m 5 ls []) := by
  have hx := C.1
  have hb := C.2.1
  intro n
  induction n with
  | zero =>
    intro σ x0 x2 x3 x4 h
    cases (show (none : Option (Int32 × SI)) = some r from h)
  | succ n ih =>
    intro σ x0 x2 x3 x4 h hx0 H locs ls S hl
    rw [f_X12_paintedIn_5] at h
    refine lv_iload hx hb dX12_paintedIn_5 (lv_at hl 3 rfl) ?_
    refine lv_iload_n hx hb dX12_paintedIn_7 rfl (lv_at hl 1 rfl) ?_
    refine lv_icmp_gt (tgt := 35) hx hb dX12_paintedIn_8 (by decide) (fun c1 => ?_) (fun c1 => ?_)
    · have h := it_p c1 h
      refine lv_iload_n hx hb dX12_paintedIn_35 rfl (lv_at hl 2 rfl) ?_
      exact x_iret C S hr h dX12_paintedIn_36
    · have h := it_n c1 h
      refine lv_iload_n hx hb dX12_paintedIn_11 rfl (lv_at hl 2 rfl) ?_
      refine lv_aload_n hx hb dX12_paintedIn_12 rfl (lv_at hl 0 rfl) ?_
      have hR2 : Ok 194 (R x0 17) 31440 := hSh x0 12 17 31440 hx0.1 rfl
      refine x_getR C S KX12 hx0 17 (by decide) rfl rfl fl_RX12_103 hR2 dX12_paintedIn_13 ?_
      refine lv_iload hx hb dX12_paintedIn_16 (lv_at hl 3 rfl) ?_
      obtain ⟨hi3, h⟩ := ck_el h
      refine x_zald (len := 1440) C S (by decide) hR2 hi3 dX12_paintedIn_18 ?_
      refine lv_if_eq (tgt := 26) hx hb dX12_paintedIn_19 (by decide) (fun c4 => ?_) (fun c4 => ?_)
      · have h := it_p c4 h
        refine lv_iconst (v := (0 : Int32)) hx hb dX12_paintedIn_26 (by decide) ?_
        refine lv_iadd hx hb dX12_paintedIn_27 ?_
        refine lv_istore_n (lv' := [(3, .int (x3 + (0 : Int32))), (0, .ref (gb g + x0)), (2, .int x2), (4, .int x4)]) hx hb dX12_paintedIn_28 rfl hl (by decide) rfl (fun ls hl => ?_)
        refine lv_iinc (v := x4 + 1) (lv' := [(4, .int (x4 + 1)), (3, .int (x3 + (0 : Int32))), (0, .ref (gb g + x0)), (2, .int x2)]) hx hb dX12_paintedIn_29 hl (k := 3) rfl rfl (by decide) rfl (fun ls hl => ?_)
        refine lv_goto (tgt := 5) hx hb dX12_paintedIn_32 (by decide) ?_
        exact ih σ x0 x2 (x3 + (0 : Int32)) (x4 + 1) h hx0 H locs ls S (lv_sub hl [2, 3, 1, 0] rfl)
      · have h := it_n c4 h
        refine lv_iconst (v := (1 : Int32)) hx hb dX12_paintedIn_22 (by decide) ?_
        refine lv_goto (tgt := 27) hx hb dX12_paintedIn_23 (by decide) ?_
        refine lv_iadd hx hb dX12_paintedIn_27 ?_
        refine lv_istore_n (lv' := [(3, .int (x3 + (1 : Int32))), (0, .ref (gb g + x0)), (2, .int x2), (4, .int x4)]) hx hb dX12_paintedIn_28 rfl hl (by decide) rfl (fun ls hl => ?_)
        refine lv_iinc (v := x4 + 1) (lv' := [(4, .int (x4 + 1)), (3, .int (x3 + (1 : Int32))), (0, .ref (gb g + x0)), (2, .int x2)]) hx hb dX12_paintedIn_29 hl (k := 3) rfl rfl (by decide) rfl (fun ls hl => ?_)
        refine lv_goto (tgt := 5) hx hb dX12_paintedIn_32 (by decide) ?_
        exact ih σ x0 x2 (x3 + (1 : Int32)) (x4 + 1) h hx0 H locs ls S (lv_sub hl [2, 3, 1, 0] rfl)
set_option maxHeartbeats 4000000 in
set_option maxRecDepth 100000 in
theorem ok_X12_paintedIn {l : Launch} {g : GL} {R : Nat → Nat → Nat} {L : Nat → Nat → Int64} {N : Nat} {σ : SI} {x0 : Nat} {x1 : Int32} {x2 : Int32} {r : (Int32 × SI)} (h : f_X12_paintedIn N R σ x0 x1 x2 = some r) (hSh : ShR R) (hx0 : Ok 194 x0 12) : Ct l g 1 yX12_paintedIn cX12_paintedIn 5 (some .int) 194 194 0 0 [.ref (gb g + x0), .int x1, .int x2] (mkS σ R L) (PI R L r) := by
  refine Met.ofW (cc := cX12_paintedIn) (maxL := 5) (ret := (some .int)) (by decide) rfl ?_
  intro p e s m args below meth c s₁ B hml hv
  obtain ⟨rfl, hE, hLo, hWd⟩ := hv
  have hr : meth.sig.returnType = (some .int) := B.returns
  have C : Cx l g p s m meth c cX12_paintedIn 5 RX12 := ⟨B.exec, B.bytes, hml, findClass_of_methodNamed B.named, hE, hLo, B.notSynchronized⟩
  have S : S2 g s σ R L s.heap [] := ⟨hWd, va_S.rf⟩
  have hx := C.1
  have hb := C.2.1
  have hl := lv_entry ([.ref (gb g + x0), .int x1, .int x2]) (n := 5) (Nat.le_of_ble_eq_true rfl)
  rw [lg_entry_eq]
  generalize (lg_sl ([.ref (gb g + x0), .int x1, .int x2]) ++ List.replicate (5 - (lg_sl ([.ref (gb g + x0), .int x1, .int x2])).length) Slot.unset).toArray = ls at hl ⊢
  have hl : lv_has ls 5 [(0, .ref (gb g + x0)), (1, .int x1), (2, .int x2)] := hl
  generalize hH : s.heap = H at S ⊢
  generalize hlc : ([] : List Loc) = locs at S ⊢
  rw [f_X12_paintedIn] at h
  refine lv_iconst (v := (0 : Int32)) hx hb dX12_paintedIn_0 (by decide) ?_
  refine lv_istore_n (lv' := [(3, .int (0 : Int32)), (0, .ref (gb g + x0)), (1, .int x1), (2, .int x2)]) hx hb dX12_paintedIn_1 rfl hl (by decide) rfl (fun ls hl => ?_)
  refine lv_iload_n hx hb dX12_paintedIn_2 rfl (lv_at hl 2 rfl) ?_
  refine lv_istore (lv' := [(4, .int x1), (3, .int (0 : Int32)), (0, .ref (gb g + x0)), (1, .int x1), (2, .int x2)]) hx hb dX12_paintedIn_3 hl (by decide) rfl (fun ls hl => ?_)
  exact w_X12_paintedIn_5 C hr hSh N σ x0 x2 (0 : Int32) x1 h hx0 H locs ls S (lv_sub hl [2, 4, 1, 0] rfl)
theorem dX12_closedOf_0 : decode cX12_closedOf 0 = .ok (.aload_n 0, 1) := by decide +kernel
theorem dX12_closedOf_1 : decode cX12_closedOf 1 = .ok (.iload_n 1, 1) := by decide +kernel
theorem dX12_closedOf_2 : decode cX12_closedOf 2 = .ok (.invokevirtual 314, 3) := by decide +kernel
theorem dX12_closedOf_5 : decode cX12_closedOf 5 = .ok (.aload_n 0, 1) := by decide +kernel
theorem dX12_closedOf_6 : decode cX12_closedOf 6 = .ok (.iconst 0, 1) := by decide +kernel
theorem dX12_closedOf_7 : decode cX12_closedOf 7 = .ok (.sipush 1439, 3) := by decide +kernel
theorem dX12_closedOf_10 : decode cX12_closedOf 10 = .ok (.invokevirtual 318, 3) := by decide +kernel
theorem dX12_closedOf_13 : decode cX12_closedOf 13 = .ok (.ireturn, 1) := by decide +kernel
def f_X12_closedOf (N : Nat) (R : Nat → Nat → Nat) (σ : SI) (x0 : Nat) (x1 : Int32) : Option (Int32 × SI) := bd (f_X12_paints N R σ x0 x1) (fun _ σ1 => bd (f_X12_paintedIn N R σ1 x0 (0 : Int32) (1439 : Int32)) (fun a2 σ2 => some (a2, σ2)))
set_option maxHeartbeats 4000000 in
set_option maxRecDepth 100000 in
theorem ok_X12_closedOf {l : Launch} {g : GL} {R : Nat → Nat → Nat} {L : Nat → Nat → Int64} {N : Nat} {σ : SI} {x0 : Nat} {x1 : Int32} {r : (Int32 × SI)} (h : f_X12_closedOf N R σ x0 x1 = some r) (hSh : ShR R) (hx0 : Ok 194 x0 12) : Ct l g 5 yX12_closedOf cX12_closedOf 2 (some .int) 194 194 0 0 [.ref (gb g + x0), .int x1] (mkS σ R L) (PI R L r) := by
  refine Met.ofW (cc := cX12_closedOf) (maxL := 2) (ret := (some .int)) (by decide) rfl ?_
  intro p e s m args below meth c s₁ B hml hv
  obtain ⟨rfl, hE, hLo, hWd⟩ := hv
  have hr : meth.sig.returnType = (some .int) := B.returns
  have C : Cx l g p s m meth c cX12_closedOf 2 RX12 := ⟨B.exec, B.bytes, hml, findClass_of_methodNamed B.named, hE, hLo, B.notSynchronized⟩
  have S : S2 g s σ R L s.heap [] := ⟨hWd, va_S.rf⟩
  have hx := C.1
  have hb := C.2.1
  have hl := lv_entry ([.ref (gb g + x0), .int x1]) (n := 2) (Nat.le_of_ble_eq_true rfl)
  rw [lg_entry_eq]
  generalize (lg_sl ([.ref (gb g + x0), .int x1]) ++ List.replicate (2 - (lg_sl ([.ref (gb g + x0), .int x1])).length) Slot.unset).toArray = ls at hl ⊢
  have hl : lv_has ls 2 [(0, .ref (gb g + x0)), (1, .int x1)] := hl
  generalize hH : s.heap = H at S ⊢
  generalize hlc : ([] : List Loc) = locs at S ⊢
  rw [f_X12_closedOf] at h
  refine lv_aload_n hx hb dX12_closedOf_0 rfl (lv_at hl 0 rfl) ?_
  refine lv_iload_n hx hb dX12_closedOf_1 rfl (lv_at hl 1 rfl) ?_
  obtain ⟨a1, σ1, hc1, h⟩ := bd_el h
  refine x_callVV C S KX12 hx0 (ok_X12_paints (L := L) hc1 hSh hx0) ⟨cd_X12_paints, ni_RX12, ml_RX12_314, in_X12_paints, sl_X12_paints⟩ ⟨by decide, by decide⟩ rfl ⟨by decide, by decide⟩ hl.1 rfl (Nat.le_of_ble_eq_true rfl) ⟨by decide, by decide⟩ dX12_closedOf_2 (fun H locs S => ?_)
  refine lv_aload_n hx hb dX12_closedOf_5 rfl (lv_at hl 0 rfl) ?_
  refine lv_iconst (v := (0 : Int32)) hx hb dX12_closedOf_6 (by decide) ?_
  refine lv_sipush (v := (1439 : Int32)) hx hb dX12_closedOf_7 (by decide) ?_
  obtain ⟨a2, σ2, hc2, h⟩ := bd_el h
  refine x_callVI C S KX12 hx0 (ok_X12_paintedIn (L := L) hc2 hSh hx0) ⟨cd_X12_paintedIn, ni_RX12, ml_RX12_318, in_X12_paintedIn, sl_X12_paintedIn⟩ ⟨by decide, by decide⟩ rfl ⟨by decide, by decide⟩ hl.1 rfl (Nat.le_of_ble_eq_true rfl) ⟨by decide, by decide⟩ dX12_closedOf_10 (fun H locs S => ?_)
  exact x_iret C S hr h dX12_closedOf_13
theorem dX12_closedInAll_0 : decode cX12_closedInAll 0 = .ok (.iconst 0, 1) := by decide +kernel
theorem dX12_closedInAll_1 : decode cX12_closedInAll 1 = .ok (.istore_n 1, 1) := by decide +kernel
theorem dX12_closedInAll_2 : decode cX12_closedInAll 2 = .ok (.iconst 0, 1) := by decide +kernel
theorem dX12_closedInAll_3 : decode cX12_closedInAll 3 = .ok (.istore_n 2, 1) := by decide +kernel
theorem dX12_closedInAll_4 : decode cX12_closedInAll 4 = .ok (.iload_n 2, 1) := by decide +kernel
theorem dX12_closedInAll_5 : decode cX12_closedInAll 5 = .ok (.aload_n 0, 1) := by decide +kernel
theorem dX12_closedInAll_6 : decode cX12_closedInAll 6 = .ok (.getfield 88, 3) := by decide +kernel
theorem dX12_closedInAll_9 : decode cX12_closedInAll 9 = .ok (.iconst 1, 1) := by decide +kernel
theorem dX12_closedInAll_10 : decode cX12_closedInAll 10 = .ok (.iaload, 1) := by decide +kernel
theorem dX12_closedInAll_11 : decode cX12_closedInAll 11 = .ok (.if_icmp .ge 17, 3) := by decide +kernel
theorem dX12_closedInAll_14 : decode cX12_closedInAll 14 = .ok (.iload_n 1, 1) := by decide +kernel
theorem dX12_closedInAll_15 : decode cX12_closedInAll 15 = .ok (.aload_n 0, 1) := by decide +kernel
theorem dX12_closedInAll_16 : decode cX12_closedInAll 16 = .ok (.iload_n 2, 1) := by decide +kernel
theorem dX12_closedInAll_17 : decode cX12_closedInAll 17 = .ok (.invokevirtual 321, 3) := by decide +kernel
theorem dX12_closedInAll_20 : decode cX12_closedInAll 20 = .ok (.iadd, 1) := by decide +kernel
theorem dX12_closedInAll_21 : decode cX12_closedInAll 21 = .ok (.istore_n 1, 1) := by decide +kernel
theorem dX12_closedInAll_22 : decode cX12_closedInAll 22 = .ok (.iinc 2 1, 3) := by decide +kernel
theorem dX12_closedInAll_25 : decode cX12_closedInAll 25 = .ok (.goto (-21), 3) := by decide +kernel
theorem dX12_closedInAll_28 : decode cX12_closedInAll 28 = .ok (.iload_n 1, 1) := by decide +kernel
theorem dX12_closedInAll_29 : decode cX12_closedInAll 29 = .ok (.ireturn, 1) := by decide +kernel
def f_X12_closedInAll_4 (N : Nat) (R : Nat → Nat → Nat) : Nat → SI → Nat → Int32 → Int32 → Option (Int32 × SI)
  | 0, _, _, _, _ => none
  | n + 1, σ, x0, x1, x2 => ck (1 : Int32) 417 (if (σ (R x0 11) (1 : Int32).toNatClampNeg) ≤ x2 then (some (x1, σ)) else (bd (f_X12_closedOf N R σ x0 x2) (fun a4 σ4 => f_X12_closedInAll_4 N R n σ4 x0 (x1 + a4) (x2 + 1))))
def f_X12_closedInAll (N : Nat) (R : Nat → Nat → Nat) (σ : SI) (x0 : Nat) : Option (Int32 × SI) := f_X12_closedInAll_4 N R N σ x0 (0 : Int32) (0 : Int32)
set_option maxHeartbeats 4000000 in
set_option maxRecDepth 100000 in
theorem w_X12_closedInAll_4 {l : Launch} {g : GL} {p : Program} {e : Jvm.Env} {s : State} {m : MethodId} {args : Array Value} {below : List Frame} {meth : Method} {c : Code} {R : Nat → Nat → Nat} {L : Nat → Nat → Int64} {r : (Int32 × SI)} {N : Nat} (C : Cx l g p s m meth c cX12_closedInAll 3 RX12) (hr : meth.sig.returnType = (some .int)) (hSh : ShR R) : ∀ (n : Nat) (σ : SI) (x0 : Nat) (x1 : Int32) (x2 : Int32), f_X12_closedInAll_4 N R n σ x0 x1 x2 = some r → Ok 194 x0 12 → ∀ (H : Heap) (locs : List Loc) (ls : Array Slot), S2 g s σ R L H locs → lv_has ls 3 [(0, .ref (gb g + x0)), (1, .int x1), (2, .int x2)] → W p l e (rmd 6 0 0) s m args below meth c H locs 0 0 (MQ below (Qg g 194 (PI R L r)) args s 0 0 (gA g)) (F0 m 4 ls []) := by
  have hx := C.1
  have hb := C.2.1
  intro n
  induction n with
  | zero =>
    intro σ x0 x1 x2 h
    cases (show (none : Option (Int32 × SI)) = some r from h)
  | succ n ih =>
    intro σ x0 x1 x2 h hx0 H locs ls S hl
    rw [f_X12_closedInAll_4] at h
    refine lv_iload_n hx hb dX12_closedInAll_4 rfl (lv_at hl 2 rfl) ?_
    refine lv_aload_n hx hb dX12_closedInAll_5 rfl (lv_at hl 0 rfl) ?_
    have hR1 : Ok 194 (R x0 11) 10417 := hSh x0 12 11 10417 hx0.1 rfl
    refine x_getR C S KX12 hx0 11 (by decide) rfl rfl fl_RX12_88 hR1 dX12_closedInAll_6 ?_
    refine lv_iconst (v := (1 : Int32)) hx hb dX12_closedInAll_9 (by decide) ?_
    obtain ⟨hi2, h⟩ := ck_el h
    refine x_iald (len := 417) C S (by decide) hR1 hi2 dX12_closedInAll_10 ?_
    refine lv_icmp_ge (tgt := 28) hx hb dX12_closedInAll_11 (by decide) (fun c3 => ?_) (fun c3 => ?_)
    · have h := it_p c3 h
      refine lv_iload_n hx hb dX12_closedInAll_28 rfl (lv_at hl 1 rfl) ?_
      exact x_iret C S hr h dX12_closedInAll_29
    · have h := it_n c3 h
      refine lv_iload_n hx hb dX12_closedInAll_14 rfl (lv_at hl 1 rfl) ?_
      refine lv_aload_n hx hb dX12_closedInAll_15 rfl (lv_at hl 0 rfl) ?_
      refine lv_iload_n hx hb dX12_closedInAll_16 rfl (lv_at hl 2 rfl) ?_
      obtain ⟨a4, σ4, hc4, h⟩ := bd_el h
      refine x_callVI C S KX12 hx0 (ok_X12_closedOf (L := L) hc4 hSh hx0) ⟨cd_X12_closedOf, ni_RX12, ml_RX12_321, in_X12_closedOf, sl_X12_closedOf⟩ ⟨by decide, by decide⟩ rfl ⟨by decide, by decide⟩ hl.1 rfl (Nat.le_of_ble_eq_true rfl) ⟨by decide, by decide⟩ dX12_closedInAll_17 (fun H locs S => ?_)
      refine lv_iadd hx hb dX12_closedInAll_20 ?_
      refine lv_istore_n (lv' := [(1, .int (x1 + a4)), (0, .ref (gb g + x0)), (2, .int x2)]) hx hb dX12_closedInAll_21 rfl hl (by decide) rfl (fun ls hl => ?_)
      refine lv_iinc (v := x2 + 1) (lv' := [(2, .int (x2 + 1)), (1, .int (x1 + a4)), (0, .ref (gb g + x0))]) hx hb dX12_closedInAll_22 hl (k := 2) rfl rfl (by decide) rfl (fun ls hl => ?_)
      refine lv_goto (tgt := 4) hx hb dX12_closedInAll_25 (by decide) ?_
      exact ih σ4 x0 (x1 + a4) (x2 + 1) h hx0 H locs ls S (lv_sub hl [2, 1, 0] rfl)
set_option maxHeartbeats 4000000 in
set_option maxRecDepth 100000 in
theorem ok_X12_closedInAll {l : Launch} {g : GL} {R : Nat → Nat → Nat} {L : Nat → Nat → Int64} {N : Nat} {σ : SI} {x0 : Nat} {r : (Int32 × SI)} (h : f_X12_closedInAll N R σ x0 = some r) (hSh : ShR R) (hx0 : Ok 194 x0 12) : Ct l g 6 yX12_closedInAll cX12_closedInAll 3 (some .int) 194 194 0 0 [.ref (gb g + x0)] (mkS σ R L) (PI R L r) := by
  refine Met.ofW (cc := cX12_closedInAll) (maxL := 3) (ret := (some .int)) (by decide) rfl ?_
  intro p e s m args below meth c s₁ B hml hv
  obtain ⟨rfl, hE, hLo, hWd⟩ := hv
  have hr : meth.sig.returnType = (some .int) := B.returns
  have C : Cx l g p s m meth c cX12_closedInAll 3 RX12 := ⟨B.exec, B.bytes, hml, findClass_of_methodNamed B.named, hE, hLo, B.notSynchronized⟩
  have S : S2 g s σ R L s.heap [] := ⟨hWd, va_S.rf⟩
  have hx := C.1
  have hb := C.2.1
  have hl := lv_entry ([.ref (gb g + x0)]) (n := 3) (Nat.le_of_ble_eq_true rfl)
  rw [lg_entry_eq]
  generalize (lg_sl ([.ref (gb g + x0)]) ++ List.replicate (3 - (lg_sl ([.ref (gb g + x0)])).length) Slot.unset).toArray = ls at hl ⊢
  have hl : lv_has ls 3 [(0, .ref (gb g + x0))] := hl
  generalize hH : s.heap = H at S ⊢
  generalize hlc : ([] : List Loc) = locs at S ⊢
  rw [f_X12_closedInAll] at h
  refine lv_iconst (v := (0 : Int32)) hx hb dX12_closedInAll_0 (by decide) ?_
  refine lv_istore_n (lv' := [(1, .int (0 : Int32)), (0, .ref (gb g + x0))]) hx hb dX12_closedInAll_1 rfl hl (by decide) rfl (fun ls hl => ?_)
  refine lv_iconst (v := (0 : Int32)) hx hb dX12_closedInAll_2 (by decide) ?_
  refine lv_istore_n (lv' := [(2, .int (0 : Int32)), (1, .int (0 : Int32)), (0, .ref (gb g + x0))]) hx hb dX12_closedInAll_3 rfl hl (by decide) rfl (fun ls hl => ?_)
  exact w_X12_closedInAll_4 C hr hSh N σ x0 (0 : Int32) (0 : Int32) h hx0 H locs ls S (lv_sub hl [2, 1, 0] rfl)
theorem dX12_closedMinutes_0 : decode cX12_closedMinutes 0 = .ok (.aload_n 0, 1) := by decide +kernel
theorem dX12_closedMinutes_1 : decode cX12_closedMinutes 1 = .ok (.iconst 0, 1) := by decide +kernel
theorem dX12_closedMinutes_2 : decode cX12_closedMinutes 2 = .ok (.putfield 3, 3) := by decide +kernel
theorem dX12_closedMinutes_5 : decode cX12_closedMinutes 5 = .ok (.aload_n 0, 1) := by decide +kernel
theorem dX12_closedMinutes_6 : decode cX12_closedMinutes 6 = .ok (.iload_n 1, 1) := by decide +kernel
theorem dX12_closedMinutes_7 : decode cX12_closedMinutes 7 = .ok (.invokevirtual 257, 3) := by decide +kernel
theorem dX12_closedMinutes_10 : decode cX12_closedMinutes 10 = .ok (.ifCond .eq 7, 3) := by decide +kernel
theorem dX12_closedMinutes_13 : decode cX12_closedMinutes 13 = .ok (.iconst 0, 1) := by decide +kernel
theorem dX12_closedMinutes_14 : decode cX12_closedMinutes 14 = .ok (.goto 8, 3) := by decide +kernel
theorem dX12_closedMinutes_17 : decode cX12_closedMinutes 17 = .ok (.aload_n 0, 1) := by decide +kernel
theorem dX12_closedMinutes_18 : decode cX12_closedMinutes 18 = .ok (.iload_n 1, 1) := by decide +kernel
theorem dX12_closedMinutes_19 : decode cX12_closedMinutes 19 = .ok (.invokevirtual 321, 3) := by decide +kernel
theorem dX12_closedMinutes_22 : decode cX12_closedMinutes 22 = .ok (.ireturn, 1) := by decide +kernel
def f_X12_closedMinutes (N : Nat) (R : Nat → Nat → Nat) (σ : SI) (x0 : Nat) (x1 : Int32) : Option (Int32 × SI) := sq (up σ x0 0 (0 : Int32)) (fun σ1 => bd (f_X12_noRoad N R σ1 x0 x1) (fun a2 σ2 => if a2 = 0 then (bd (f_X12_closedOf N R σ2 x0 x1) (fun a4 σ4 => some (a4, σ4))) else (some ((0 : Int32), σ2))))
set_option maxHeartbeats 4000000 in
set_option maxRecDepth 100000 in
theorem ok_X12_closedMinutes {l : Launch} {g : GL} {R : Nat → Nat → Nat} {L : Nat → Nat → Int64} {N : Nat} {σ : SI} {x0 : Nat} {x1 : Int32} {r : (Int32 × SI)} (h : f_X12_closedMinutes N R σ x0 x1 = some r) (hSh : ShR R) (hx0 : Ok 194 x0 12) : Ct l g 6 yX12_closedMinutes cX12_closedMinutes 2 (some .int) 194 194 0 0 [.ref (gb g + x0), .int x1] (mkS σ R L) (PI R L r) := by
  refine Met.ofW (cc := cX12_closedMinutes) (maxL := 2) (ret := (some .int)) (by decide) rfl ?_
  intro p e s m args below meth c s₁ B hml hv
  obtain ⟨rfl, hE, hLo, hWd⟩ := hv
  have hr : meth.sig.returnType = (some .int) := B.returns
  have C : Cx l g p s m meth c cX12_closedMinutes 2 RX12 := ⟨B.exec, B.bytes, hml, findClass_of_methodNamed B.named, hE, hLo, B.notSynchronized⟩
  have S : S2 g s σ R L s.heap [] := ⟨hWd, va_S.rf⟩
  have hx := C.1
  have hb := C.2.1
  have hl := lv_entry ([.ref (gb g + x0), .int x1]) (n := 2) (Nat.le_of_ble_eq_true rfl)
  rw [lg_entry_eq]
  generalize (lg_sl ([.ref (gb g + x0), .int x1]) ++ List.replicate (2 - (lg_sl ([.ref (gb g + x0), .int x1])).length) Slot.unset).toArray = ls at hl ⊢
  have hl : lv_has ls 2 [(0, .ref (gb g + x0)), (1, .int x1)] := hl
  generalize hH : s.heap = H at S ⊢
  generalize hlc : ([] : List Loc) = locs at S ⊢
  rw [f_X12_closedMinutes] at h
  refine lv_aload_n hx hb dX12_closedMinutes_0 rfl (lv_at hl 0 rfl) ?_
  refine lv_iconst (v := (0 : Int32)) hx hb dX12_closedMinutes_1 (by decide) ?_
  obtain ⟨σ1, hs1, h⟩ := sq_el h
  refine x_putI C S KX12 hx0 0 (by decide) rfl rfl rfl ⟨rfl, rfl⟩ fl_RX12_3 dX12_closedMinutes_2 hs1 (fun H locs S => ?_)
  refine lv_aload_n hx hb dX12_closedMinutes_5 rfl (lv_at hl 0 rfl) ?_
  refine lv_iload_n hx hb dX12_closedMinutes_6 rfl (lv_at hl 1 rfl) ?_
  obtain ⟨a2, σ2, hc2, h⟩ := bd_el h
  refine x_callVI C S KX12 hx0 (ok_X12_noRoad (L := L) hc2 hSh hx0) ⟨cd_X12_noRoad, ni_RX12, ml_RX12_257, in_X12_noRoad, sl_X12_noRoad⟩ ⟨by decide, by decide⟩ rfl ⟨by decide, by decide⟩ hl.1 rfl (Nat.le_of_ble_eq_true rfl) ⟨by decide, by decide⟩ dX12_closedMinutes_7 (fun H locs S => ?_)
  refine lv_if_eq (tgt := 17) hx hb dX12_closedMinutes_10 (by decide) (fun c3 => ?_) (fun c3 => ?_)
  · have h := it_p c3 h
    refine lv_aload_n hx hb dX12_closedMinutes_17 rfl (lv_at hl 0 rfl) ?_
    refine lv_iload_n hx hb dX12_closedMinutes_18 rfl (lv_at hl 1 rfl) ?_
    obtain ⟨a4, σ4, hc4, h⟩ := bd_el h
    refine x_callVI C S KX12 hx0 (ok_X12_closedOf (L := L) hc4 hSh hx0) ⟨cd_X12_closedOf, ni_RX12, ml_RX12_321, in_X12_closedOf, sl_X12_closedOf⟩ ⟨by decide, by decide⟩ rfl ⟨by decide, by decide⟩ hl.1 rfl (Nat.le_of_ble_eq_true rfl) ⟨by decide, by decide⟩ dX12_closedMinutes_19 (fun H locs S => ?_)
    exact x_iret C S hr h dX12_closedMinutes_22
  · have h := it_n c3 h
    refine lv_iconst (v := (0 : Int32)) hx hb dX12_closedMinutes_13 (by decide) ?_
    refine lv_goto (tgt := 22) hx hb dX12_closedMinutes_14 (by decide) ?_
    exact x_iret C S hr h dX12_closedMinutes_22
theorem dX12_totalClosed_0 : decode cX12_totalClosed 0 = .ok (.aload_n 0, 1) := by decide +kernel
theorem dX12_totalClosed_1 : decode cX12_totalClosed 1 = .ok (.iconst 0, 1) := by decide +kernel
theorem dX12_totalClosed_2 : decode cX12_totalClosed 2 = .ok (.putfield 3, 3) := by decide +kernel
theorem dX12_totalClosed_5 : decode cX12_totalClosed 5 = .ok (.aload_n 0, 1) := by decide +kernel
theorem dX12_totalClosed_6 : decode cX12_totalClosed 6 = .ok (.invokevirtual 324, 3) := by decide +kernel
theorem dX12_totalClosed_9 : decode cX12_totalClosed 9 = .ok (.ireturn, 1) := by decide +kernel
def f_X12_totalClosed (N : Nat) (R : Nat → Nat → Nat) (σ : SI) (x0 : Nat) : Option (Int32 × SI) := sq (up σ x0 0 (0 : Int32)) (fun σ1 => bd (f_X12_closedInAll N R σ1 x0) (fun a2 σ2 => some (a2, σ2)))
set_option maxHeartbeats 4000000 in
set_option maxRecDepth 100000 in
theorem ok_X12_totalClosed {l : Launch} {g : GL} {R : Nat → Nat → Nat} {L : Nat → Nat → Int64} {N : Nat} {σ : SI} {x0 : Nat} {r : (Int32 × SI)} (h : f_X12_totalClosed N R σ x0 = some r) (hSh : ShR R) (hx0 : Ok 194 x0 12) : Ct l g 7 yX12_totalClosed cX12_totalClosed 1 (some .int) 194 194 0 0 [.ref (gb g + x0)] (mkS σ R L) (PI R L r) := by
  refine Met.ofW (cc := cX12_totalClosed) (maxL := 1) (ret := (some .int)) (by decide) rfl ?_
  intro p e s m args below meth c s₁ B hml hv
  obtain ⟨rfl, hE, hLo, hWd⟩ := hv
  have hr : meth.sig.returnType = (some .int) := B.returns
  have C : Cx l g p s m meth c cX12_totalClosed 1 RX12 := ⟨B.exec, B.bytes, hml, findClass_of_methodNamed B.named, hE, hLo, B.notSynchronized⟩
  have S : S2 g s σ R L s.heap [] := ⟨hWd, va_S.rf⟩
  have hx := C.1
  have hb := C.2.1
  have hl := lv_entry ([.ref (gb g + x0)]) (n := 1) (Nat.le_of_ble_eq_true rfl)
  rw [lg_entry_eq]
  generalize (lg_sl ([.ref (gb g + x0)]) ++ List.replicate (1 - (lg_sl ([.ref (gb g + x0)])).length) Slot.unset).toArray = ls at hl ⊢
  have hl : lv_has ls 1 [(0, .ref (gb g + x0))] := hl
  generalize hH : s.heap = H at S ⊢
  generalize hlc : ([] : List Loc) = locs at S ⊢
  rw [f_X12_totalClosed] at h
  refine lv_aload_n hx hb dX12_totalClosed_0 rfl (lv_at hl 0 rfl) ?_
  refine lv_iconst (v := (0 : Int32)) hx hb dX12_totalClosed_1 (by decide) ?_
  obtain ⟨σ1, hs1, h⟩ := sq_el h
  refine x_putI C S KX12 hx0 0 (by decide) rfl rfl rfl ⟨rfl, rfl⟩ fl_RX12_3 dX12_totalClosed_2 hs1 (fun H locs S => ?_)
  refine lv_aload_n hx hb dX12_totalClosed_5 rfl (lv_at hl 0 rfl) ?_
  obtain ⟨a2, σ2, hc2, h⟩ := bd_el h
  refine x_callVI C S KX12 hx0 (ok_X12_closedInAll (L := L) hc2 hSh hx0) ⟨cd_X12_closedInAll, ni_RX12, ml_RX12_324, in_X12_closedInAll, sl_X12_closedInAll⟩ ⟨by decide, by decide⟩ rfl ⟨by decide, by decide⟩ hl.1 rfl (Nat.le_of_ble_eq_true rfl) ⟨by decide, by decide⟩ dX12_totalClosed_6 (fun H locs S => ?_)
  exact x_iret C S hr h dX12_totalClosed_9
theorem dX12_isClosed_0 : decode cX12_isClosed 0 = .ok (.aload_n 0, 1) := by decide +kernel
theorem dX12_isClosed_1 : decode cX12_isClosed 1 = .ok (.iconst 0, 1) := by decide +kernel
theorem dX12_isClosed_2 : decode cX12_isClosed 2 = .ok (.putfield 3, 3) := by decide +kernel
theorem dX12_isClosed_5 : decode cX12_isClosed 5 = .ok (.aload_n 0, 1) := by decide +kernel
theorem dX12_isClosed_6 : decode cX12_isClosed 6 = .ok (.iload_n 1, 1) := by decide +kernel
theorem dX12_isClosed_7 : decode cX12_isClosed 7 = .ok (.invokevirtual 257, 3) := by decide +kernel
theorem dX12_isClosed_10 : decode cX12_isClosed 10 = .ok (.ifCond .eq 5, 3) := by decide +kernel
theorem dX12_isClosed_13 : decode cX12_isClosed 13 = .ok (.iconst 0, 1) := by decide +kernel
theorem dX12_isClosed_14 : decode cX12_isClosed 14 = .ok (.ireturn, 1) := by decide +kernel
theorem dX12_isClosed_15 : decode cX12_isClosed 15 = .ok (.aload_n 0, 1) := by decide +kernel
theorem dX12_isClosed_16 : decode cX12_isClosed 16 = .ok (.iload_n 1, 1) := by decide +kernel
theorem dX12_isClosed_17 : decode cX12_isClosed 17 = .ok (.invokevirtual 314, 3) := by decide +kernel
theorem dX12_isClosed_20 : decode cX12_isClosed 20 = .ok (.iload_n 2, 1) := by decide +kernel
theorem dX12_isClosed_21 : decode cX12_isClosed 21 = .ok (.iconst 0, 1) := by decide +kernel
theorem dX12_isClosed_22 : decode cX12_isClosed 22 = .ok (.sipush 1439, 3) := by decide +kernel
theorem dX12_isClosed_25 : decode cX12_isClosed 25 = .ok (.invokestatic 71, 3) := by decide +kernel
theorem dX12_isClosed_28 : decode cX12_isClosed 28 = .ok (.ifCond .eq 16, 3) := by decide +kernel
theorem dX12_isClosed_31 : decode cX12_isClosed 31 = .ok (.aload_n 0, 1) := by decide +kernel
theorem dX12_isClosed_32 : decode cX12_isClosed 32 = .ok (.getfield 103, 3) := by decide +kernel
theorem dX12_isClosed_35 : decode cX12_isClosed 35 = .ok (.iload_n 2, 1) := by decide +kernel
theorem dX12_isClosed_36 : decode cX12_isClosed 36 = .ok (.baload, 1) := by decide +kernel
theorem dX12_isClosed_37 : decode cX12_isClosed 37 = .ok (.ifCond .eq 7, 3) := by decide +kernel
theorem dX12_isClosed_40 : decode cX12_isClosed 40 = .ok (.iconst 1, 1) := by decide +kernel
theorem dX12_isClosed_41 : decode cX12_isClosed 41 = .ok (.goto 4, 3) := by decide +kernel
theorem dX12_isClosed_44 : decode cX12_isClosed 44 = .ok (.iconst 0, 1) := by decide +kernel
theorem dX12_isClosed_45 : decode cX12_isClosed 45 = .ok (.ireturn, 1) := by decide +kernel
def f_X12_isClosed (N : Nat) (R : Nat → Nat → Nat) (σ : SI) (x0 : Nat) (x1 : Int32) (x2 : Int32) : Option (Int32 × SI) := sq (up σ x0 0 (0 : Int32)) (fun σ1 => bd (f_X12_noRoad N R σ1 x0 x1) (fun a2 σ2 => if a2 = 0 then (bd (f_X12_paints N R σ2 x0 x1) (fun _ σ4 => bd (f_X12_in N R σ4 x2 (0 : Int32) (1439 : Int32)) (fun a5 σ5 => if a5 = 0 then (some ((0 : Int32), σ5)) else (ck x2 1440 (if (σ5 (R x0 17) x2.toNatClampNeg) = 0 then (some ((0 : Int32), σ5)) else (some ((1 : Int32), σ5))))))) else (some ((0 : Int32), σ2))))
set_option maxHeartbeats 4000000 in
set_option maxRecDepth 100000 in
theorem ok_X12_isClosed {l : Launch} {g : GL} {R : Nat → Nat → Nat} {L : Nat → Nat → Int64} {N : Nat} {σ : SI} {x0 : Nat} {x1 : Int32} {x2 : Int32} {r : (Int32 × SI)} (h : f_X12_isClosed N R σ x0 x1 x2 = some r) (hSh : ShR R) (hx0 : Ok 194 x0 12) : Ct l g 5 yX12_isClosed cX12_isClosed 3 (some .boolean) 194 194 0 0 [.ref (gb g + x0), .int x1, .int x2] (mkS σ R L) (PI R L r) := by
  refine Met.ofW (cc := cX12_isClosed) (maxL := 3) (ret := (some .boolean)) (by decide) rfl ?_
  intro p e s m args below meth c s₁ B hml hv
  obtain ⟨rfl, hE, hLo, hWd⟩ := hv
  have hr : meth.sig.returnType = (some .boolean) := B.returns
  have C : Cx l g p s m meth c cX12_isClosed 3 RX12 := ⟨B.exec, B.bytes, hml, findClass_of_methodNamed B.named, hE, hLo, B.notSynchronized⟩
  have S : S2 g s σ R L s.heap [] := ⟨hWd, va_S.rf⟩
  have hx := C.1
  have hb := C.2.1
  have hl := lv_entry ([.ref (gb g + x0), .int x1, .int x2]) (n := 3) (Nat.le_of_ble_eq_true rfl)
  rw [lg_entry_eq]
  generalize (lg_sl ([.ref (gb g + x0), .int x1, .int x2]) ++ List.replicate (3 - (lg_sl ([.ref (gb g + x0), .int x1, .int x2])).length) Slot.unset).toArray = ls at hl ⊢
  have hl : lv_has ls 3 [(0, .ref (gb g + x0)), (1, .int x1), (2, .int x2)] := hl
  generalize hH : s.heap = H at S ⊢
  generalize hlc : ([] : List Loc) = locs at S ⊢
  rw [f_X12_isClosed] at h
  refine lv_aload_n hx hb dX12_isClosed_0 rfl (lv_at hl 0 rfl) ?_
  refine lv_iconst (v := (0 : Int32)) hx hb dX12_isClosed_1 (by decide) ?_
  obtain ⟨σ1, hs1, h⟩ := sq_el h
  refine x_putI C S KX12 hx0 0 (by decide) rfl rfl rfl ⟨rfl, rfl⟩ fl_RX12_3 dX12_isClosed_2 hs1 (fun H locs S => ?_)
  refine lv_aload_n hx hb dX12_isClosed_5 rfl (lv_at hl 0 rfl) ?_
  refine lv_iload_n hx hb dX12_isClosed_6 rfl (lv_at hl 1 rfl) ?_
  obtain ⟨a2, σ2, hc2, h⟩ := bd_el h
  refine x_callVI C S KX12 hx0 (ok_X12_noRoad (L := L) hc2 hSh hx0) ⟨cd_X12_noRoad, ni_RX12, ml_RX12_257, in_X12_noRoad, sl_X12_noRoad⟩ ⟨by decide, by decide⟩ rfl ⟨by decide, by decide⟩ hl.1 rfl (Nat.le_of_ble_eq_true rfl) ⟨by decide, by decide⟩ dX12_isClosed_7 (fun H locs S => ?_)
  refine lv_if_eq (tgt := 15) hx hb dX12_isClosed_10 (by decide) (fun c3 => ?_) (fun c3 => ?_)
  · have h := it_p c3 h
    refine lv_aload_n hx hb dX12_isClosed_15 rfl (lv_at hl 0 rfl) ?_
    refine lv_iload_n hx hb dX12_isClosed_16 rfl (lv_at hl 1 rfl) ?_
    obtain ⟨a4, σ4, hc4, h⟩ := bd_el h
    refine x_callVV C S KX12 hx0 (ok_X12_paints (L := L) hc4 hSh hx0) ⟨cd_X12_paints, ni_RX12, ml_RX12_314, in_X12_paints, sl_X12_paints⟩ ⟨by decide, by decide⟩ rfl ⟨by decide, by decide⟩ hl.1 rfl (Nat.le_of_ble_eq_true rfl) ⟨by decide, by decide⟩ dX12_isClosed_17 (fun H locs S => ?_)
    refine lv_iload_n hx hb dX12_isClosed_20 rfl (lv_at hl 2 rfl) ?_
    refine lv_iconst (v := (0 : Int32)) hx hb dX12_isClosed_21 (by decide) ?_
    refine lv_sipush (v := (1439 : Int32)) hx hb dX12_isClosed_22 (by decide) ?_
    obtain ⟨a5, σ5, hc5, h⟩ := bd_el h
    refine x_callSI C S (ok_X12_in (L := L) hc5 hSh) ⟨cd_X12_in, ni_RX12, ml_RX12_71, st_X12_in⟩ ⟨by decide, by decide⟩ rfl ⟨by decide, by decide⟩ hl.1 rfl (Nat.le_of_ble_eq_true rfl) ⟨by decide, by decide⟩ dX12_isClosed_25 (fun H locs S => ?_)
    refine lv_if_eq (tgt := 44) hx hb dX12_isClosed_28 (by decide) (fun c6 => ?_) (fun c6 => ?_)
    · have h := it_p c6 h
      refine lv_iconst (v := (0 : Int32)) hx hb dX12_isClosed_44 (by decide) ?_
      exact x_zret C S hr (by decide) h dX12_isClosed_45
    · have h := it_n c6 h
      refine lv_aload_n hx hb dX12_isClosed_31 rfl (lv_at hl 0 rfl) ?_
      have hR7 : Ok 194 (R x0 17) 31440 := hSh x0 12 17 31440 hx0.1 rfl
      refine x_getR C S KX12 hx0 17 (by decide) rfl rfl fl_RX12_103 hR7 dX12_isClosed_32 ?_
      refine lv_iload_n hx hb dX12_isClosed_35 rfl (lv_at hl 2 rfl) ?_
      obtain ⟨hi8, h⟩ := ck_el h
      refine x_zald (len := 1440) C S (by decide) hR7 hi8 dX12_isClosed_36 ?_
      refine lv_if_eq (tgt := 44) hx hb dX12_isClosed_37 (by decide) (fun c9 => ?_) (fun c9 => ?_)
      · have h := it_p c9 h
        refine lv_iconst (v := (0 : Int32)) hx hb dX12_isClosed_44 (by decide) ?_
        exact x_zret C S hr (by decide) h dX12_isClosed_45
      · have h := it_n c9 h
        refine lv_iconst (v := (1 : Int32)) hx hb dX12_isClosed_40 (by decide) ?_
        refine lv_goto (tgt := 45) hx hb dX12_isClosed_41 (by decide) ?_
        exact x_zret C S hr (by decide) h dX12_isClosed_45
  · have h := it_n c3 h
    refine lv_iconst (v := (0 : Int32)) hx hb dX12_isClosed_13 (by decide) ?_
    exact x_zret C S hr (by decide) h dX12_isClosed_14
theorem dX12_beginsRun_0 : decode cX12_beginsRun 0 = .ok (.aload_n 0, 1) := by decide +kernel
theorem dX12_beginsRun_1 : decode cX12_beginsRun 1 = .ok (.getfield 103, 3) := by decide +kernel
theorem dX12_beginsRun_4 : decode cX12_beginsRun 4 = .ok (.iload_n 1, 1) := by decide +kernel
theorem dX12_beginsRun_5 : decode cX12_beginsRun 5 = .ok (.baload, 1) := by decide +kernel
theorem dX12_beginsRun_6 : decode cX12_beginsRun 6 = .ok (.ifCond .eq 22, 3) := by decide +kernel
theorem dX12_beginsRun_9 : decode cX12_beginsRun 9 = .ok (.iload_n 1, 1) := by decide +kernel
theorem dX12_beginsRun_10 : decode cX12_beginsRun 10 = .ok (.ifCond .eq 14, 3) := by decide +kernel
theorem dX12_beginsRun_13 : decode cX12_beginsRun 13 = .ok (.aload_n 0, 1) := by decide +kernel
theorem dX12_beginsRun_14 : decode cX12_beginsRun 14 = .ok (.getfield 103, 3) := by decide +kernel
theorem dX12_beginsRun_17 : decode cX12_beginsRun 17 = .ok (.iload_n 1, 1) := by decide +kernel
theorem dX12_beginsRun_18 : decode cX12_beginsRun 18 = .ok (.iconst 1, 1) := by decide +kernel
theorem dX12_beginsRun_19 : decode cX12_beginsRun 19 = .ok (.isub, 1) := by decide +kernel
theorem dX12_beginsRun_20 : decode cX12_beginsRun 20 = .ok (.baload, 1) := by decide +kernel
theorem dX12_beginsRun_21 : decode cX12_beginsRun 21 = .ok (.ifCond .ne 7, 3) := by decide +kernel
theorem dX12_beginsRun_24 : decode cX12_beginsRun 24 = .ok (.iconst 1, 1) := by decide +kernel
theorem dX12_beginsRun_25 : decode cX12_beginsRun 25 = .ok (.goto 4, 3) := by decide +kernel
theorem dX12_beginsRun_28 : decode cX12_beginsRun 28 = .ok (.iconst 0, 1) := by decide +kernel
theorem dX12_beginsRun_29 : decode cX12_beginsRun 29 = .ok (.ireturn, 1) := by decide +kernel
def f_X12_beginsRun_24 (N : Nat) (R : Nat → Nat → Nat) (σ : SI) : Option (Int32 × SI) := some ((1 : Int32), σ)
def f_X12_beginsRun (N : Nat) (R : Nat → Nat → Nat) (σ : SI) (x0 : Nat) (x1 : Int32) : Option (Int32 × SI) := ck x1 1440 (if (σ (R x0 17) x1.toNatClampNeg) = 0 then (some ((0 : Int32), σ)) else (if x1 = 0 then (f_X12_beginsRun_24 N R σ) else (ck (x1 - (1 : Int32)) 1440 (if (σ (R x0 17) (x1 - (1 : Int32)).toNatClampNeg) = 0 then (f_X12_beginsRun_24 N R σ) else (some ((0 : Int32), σ))))))
set_option maxHeartbeats 4000000 in
set_option maxRecDepth 100000 in
theorem w_X12_beginsRun_24 {l : Launch} {g : GL} {p : Program} {e : Jvm.Env} {s : State} {m : MethodId} {args : Array Value} {below : List Frame} {meth : Method} {c : Code} {R : Nat → Nat → Nat} {L : Nat → Nat → Int64} {r : (Int32 × SI)} {N : Nat} (C : Cx l g p s m meth c cX12_beginsRun 2 RX12) (hr : meth.sig.returnType = (some .boolean)) (hSh : ShR R) : ∀ (σ : SI), f_X12_beginsRun_24 N R σ = some r → ∀ (H : Heap) (locs : List Loc) (ls : Array Slot), S2 g s σ R L H locs → lv_has ls 2 [] → W p l e (rmd 1 0 0) s m args below meth c H locs 0 0 (MQ below (Qg g 194 (PI R L r)) args s 0 0 (gA g)) (F0 m 24 ls []) := by
  have hx := C.1
  have hb := C.2.1
  intro σ h H locs ls S hl
  rw [f_X12_beginsRun_24] at h
  refine lv_iconst (v := (1 : Int32)) hx hb dX12_beginsRun_24 (by decide) ?_
  refine lv_goto (tgt := 29) hx hb dX12_beginsRun_25 (by decide) ?_
  exact x_zret C S hr (by decide) h dX12_beginsRun_29
set_option maxHeartbeats 4000000 in
set_option maxRecDepth 100000 in
theorem ok_X12_beginsRun {l : Launch} {g : GL} {R : Nat → Nat → Nat} {L : Nat → Nat → Int64} {N : Nat} {σ : SI} {x0 : Nat} {x1 : Int32} {r : (Int32 × SI)} (h : f_X12_beginsRun N R σ x0 x1 = some r) (hSh : ShR R) (hx0 : Ok 194 x0 12) : Ct l g 1 yX12_beginsRun cX12_beginsRun 2 (some .boolean) 194 194 0 0 [.ref (gb g + x0), .int x1] (mkS σ R L) (PI R L r) := by
  refine Met.ofW (cc := cX12_beginsRun) (maxL := 2) (ret := (some .boolean)) (by decide) rfl ?_
  intro p e s m args below meth c s₁ B hml hv
  obtain ⟨rfl, hE, hLo, hWd⟩ := hv
  have hr : meth.sig.returnType = (some .boolean) := B.returns
  have C : Cx l g p s m meth c cX12_beginsRun 2 RX12 := ⟨B.exec, B.bytes, hml, findClass_of_methodNamed B.named, hE, hLo, B.notSynchronized⟩
  have S : S2 g s σ R L s.heap [] := ⟨hWd, va_S.rf⟩
  have hx := C.1
  have hb := C.2.1
  have hl := lv_entry ([.ref (gb g + x0), .int x1]) (n := 2) (Nat.le_of_ble_eq_true rfl)
  rw [lg_entry_eq]
  generalize (lg_sl ([.ref (gb g + x0), .int x1]) ++ List.replicate (2 - (lg_sl ([.ref (gb g + x0), .int x1])).length) Slot.unset).toArray = ls at hl ⊢
  have hl : lv_has ls 2 [(0, .ref (gb g + x0)), (1, .int x1)] := hl
  generalize hH : s.heap = H at S ⊢
  generalize hlc : ([] : List Loc) = locs at S ⊢
  rw [f_X12_beginsRun] at h
  refine lv_aload_n hx hb dX12_beginsRun_0 rfl (lv_at hl 0 rfl) ?_
  have hR1 : Ok 194 (R x0 17) 31440 := hSh x0 12 17 31440 hx0.1 rfl
  refine x_getR C S KX12 hx0 17 (by decide) rfl rfl fl_RX12_103 hR1 dX12_beginsRun_1 ?_
  refine lv_iload_n hx hb dX12_beginsRun_4 rfl (lv_at hl 1 rfl) ?_
  obtain ⟨hi2, h⟩ := ck_el h
  refine x_zald (len := 1440) C S (by decide) hR1 hi2 dX12_beginsRun_5 ?_
  refine lv_if_eq (tgt := 28) hx hb dX12_beginsRun_6 (by decide) (fun c3 => ?_) (fun c3 => ?_)
  · have h := it_p c3 h
    refine lv_iconst (v := (0 : Int32)) hx hb dX12_beginsRun_28 (by decide) ?_
    exact x_zret C S hr (by decide) h dX12_beginsRun_29
  · have h := it_n c3 h
    refine lv_iload_n hx hb dX12_beginsRun_9 rfl (lv_at hl 1 rfl) ?_
    refine lv_if_eq (tgt := 24) hx hb dX12_beginsRun_10 (by decide) (fun c4 => ?_) (fun c4 => ?_)
    · have h := it_p c4 h
      exact w_X12_beginsRun_24 C hr hSh σ h H locs ls S (lv_sub hl [] rfl)
    · have h := it_n c4 h
      refine lv_aload_n hx hb dX12_beginsRun_13 rfl (lv_at hl 0 rfl) ?_
      have hR5 : Ok 194 (R x0 17) 31440 := hSh x0 12 17 31440 hx0.1 rfl
      refine x_getR C S KX12 hx0 17 (by decide) rfl rfl fl_RX12_103 hR5 dX12_beginsRun_14 ?_
      refine lv_iload_n hx hb dX12_beginsRun_17 rfl (lv_at hl 1 rfl) ?_
      refine lv_iconst (v := (1 : Int32)) hx hb dX12_beginsRun_18 (by decide) ?_
      refine lv_isub hx hb dX12_beginsRun_19 ?_
      obtain ⟨hi6, h⟩ := ck_el h
      refine x_zald (len := 1440) C S (by decide) hR5 hi6 dX12_beginsRun_20 ?_
      refine lv_if_ne (tgt := 28) hx hb dX12_beginsRun_21 (by decide) (fun c7 => ?_) (fun c7 => ?_)
      · have h := it_n c7 h
        refine lv_iconst (v := (0 : Int32)) hx hb dX12_beginsRun_28 (by decide) ?_
        exact x_zret C S hr (by decide) h dX12_beginsRun_29
      · have h := it_p c7 h
        exact w_X12_beginsRun_24 C hr hSh σ h H locs ls S (lv_sub hl [] rfl)
theorem dX12_closures_0 : decode cX12_closures 0 = .ok (.aload_n 0, 1) := by decide +kernel
theorem dX12_closures_1 : decode cX12_closures 1 = .ok (.iconst 0, 1) := by decide +kernel
theorem dX12_closures_2 : decode cX12_closures 2 = .ok (.putfield 3, 3) := by decide +kernel
theorem dX12_closures_5 : decode cX12_closures 5 = .ok (.aload_n 0, 1) := by decide +kernel
theorem dX12_closures_6 : decode cX12_closures 6 = .ok (.iload_n 1, 1) := by decide +kernel
theorem dX12_closures_7 : decode cX12_closures 7 = .ok (.invokevirtual 257, 3) := by decide +kernel
theorem dX12_closures_10 : decode cX12_closures 10 = .ok (.ifCond .eq 5, 3) := by decide +kernel
theorem dX12_closures_13 : decode cX12_closures 13 = .ok (.iconst 0, 1) := by decide +kernel
theorem dX12_closures_14 : decode cX12_closures 14 = .ok (.ireturn, 1) := by decide +kernel
theorem dX12_closures_15 : decode cX12_closures 15 = .ok (.aload_n 0, 1) := by decide +kernel
theorem dX12_closures_16 : decode cX12_closures 16 = .ok (.iload_n 1, 1) := by decide +kernel
theorem dX12_closures_17 : decode cX12_closures 17 = .ok (.invokevirtual 314, 3) := by decide +kernel
theorem dX12_closures_20 : decode cX12_closures 20 = .ok (.iconst 0, 1) := by decide +kernel
theorem dX12_closures_21 : decode cX12_closures 21 = .ok (.istore_n 2, 1) := by decide +kernel
theorem dX12_closures_22 : decode cX12_closures 22 = .ok (.iconst 0, 1) := by decide +kernel
theorem dX12_closures_23 : decode cX12_closures 23 = .ok (.istore_n 3, 1) := by decide +kernel
theorem dX12_closures_24 : decode cX12_closures 24 = .ok (.iload_n 3, 1) := by decide +kernel
theorem dX12_closures_25 : decode cX12_closures 25 = .ok (.sipush 1440, 3) := by decide +kernel
theorem dX12_closures_28 : decode cX12_closures 28 = .ok (.if_icmp .ge 25, 3) := by decide +kernel
theorem dX12_closures_31 : decode cX12_closures 31 = .ok (.iload_n 2, 1) := by decide +kernel
theorem dX12_closures_32 : decode cX12_closures 32 = .ok (.aload_n 0, 1) := by decide +kernel
theorem dX12_closures_33 : decode cX12_closures 33 = .ok (.iload_n 3, 1) := by decide +kernel
theorem dX12_closures_34 : decode cX12_closures 34 = .ok (.invokevirtual 327, 3) := by decide +kernel
theorem dX12_closures_37 : decode cX12_closures 37 = .ok (.ifCond .eq 7, 3) := by decide +kernel
theorem dX12_closures_40 : decode cX12_closures 40 = .ok (.iconst 1, 1) := by decide +kernel
theorem dX12_closures_41 : decode cX12_closures 41 = .ok (.goto 4, 3) := by decide +kernel
theorem dX12_closures_44 : decode cX12_closures 44 = .ok (.iconst 0, 1) := by decide +kernel
theorem dX12_closures_45 : decode cX12_closures 45 = .ok (.iadd, 1) := by decide +kernel
theorem dX12_closures_46 : decode cX12_closures 46 = .ok (.istore_n 2, 1) := by decide +kernel
theorem dX12_closures_47 : decode cX12_closures 47 = .ok (.iinc 3 1, 3) := by decide +kernel
theorem dX12_closures_50 : decode cX12_closures 50 = .ok (.goto (-26), 3) := by decide +kernel
theorem dX12_closures_53 : decode cX12_closures 53 = .ok (.iload_n 2, 1) := by decide +kernel
theorem dX12_closures_54 : decode cX12_closures 54 = .ok (.ireturn, 1) := by decide +kernel
def f_X12_closures_24 (N : Nat) (R : Nat → Nat → Nat) : Nat → SI → Nat → Int32 → Int32 → Option (Int32 × SI)
  | 0, _, _, _, _ => none
  | n + 1, σ, x0, x2, x3 => if (1440 : Int32) ≤ x3 then (some (x2, σ)) else (bd (f_X12_beginsRun N R σ x0 x3) (fun a6 σ6 => if a6 = 0 then (f_X12_closures_24 N R n σ6 x0 (x2 + (0 : Int32)) (x3 + 1)) else (f_X12_closures_24 N R n σ6 x0 (x2 + (1 : Int32)) (x3 + 1))))
def f_X12_closures (N : Nat) (R : Nat → Nat → Nat) (σ : SI) (x0 : Nat) (x1 : Int32) : Option (Int32 × SI) := sq (up σ x0 0 (0 : Int32)) (fun σ1 => bd (f_X12_noRoad N R σ1 x0 x1) (fun a2 σ2 => if a2 = 0 then (bd (f_X12_paints N R σ2 x0 x1) (fun _ σ4 => f_X12_closures_24 N R N σ4 x0 (0 : Int32) (0 : Int32))) else (some ((0 : Int32), σ2))))
set_option maxHeartbeats 4000000 in
set_option maxRecDepth 100000 in
theorem w_X12_closures_24 {l : Launch} {g : GL} {p : Program} {e : Jvm.Env} {s : State} {m : MethodId} {args : Array Value} {below : List Frame} {meth : Method} {c : Code} {R : Nat → Nat → Nat} {L : Nat → Nat → Int64} {r : (Int32 × SI)} {N : Nat} (C : Cx l g p s m meth c cX12_closures 4 RX12) (hr : meth.sig.returnType = (some .int)) (hSh : ShR R) : ∀ (n : Nat) (σ : SI) (x0 : Nat) (x2 : Int32) (x3 : Int32), f_X12_closures_24 N R n σ x0 x2 x3 = some r → Ok 194 x0 12 → ∀ (H : Heap) (locs : List Loc) (ls : Array Slot), S2 g s σ R L H locs → lv_has ls 4 [(0, .ref (gb g + x0)), (2, .int x2), (3, .int x3)] → W p l e (rmd 5 0 0) s m args below meth c H locs 0 0 (MQ below (Qg g 194 (PI R L r)) args s 0 0 (gA g)) (F0 m 24 ls []) := by
  have hx := C.1
  have hb := C.2.1
  intro n
  induction n with
  | zero =>
    intro σ x0 x2 x3 h
    cases (show (none : Option (Int32 × SI)) = some r from h)
  | succ n ih =>
    intro σ x0 x2 x3 h hx0 H locs ls S hl
    rw [f_X12_closures_24] at h
    refine lv_iload_n hx hb dX12_closures_24 rfl (lv_at hl 2 rfl) ?_
    refine lv_sipush (v := (1440 : Int32)) hx hb dX12_closures_25 (by decide) ?_
    refine lv_icmp_ge (tgt := 53) hx hb dX12_closures_28 (by decide) (fun c5 => ?_) (fun c5 => ?_)
    · have h := it_p c5 h
      refine lv_iload_n hx hb dX12_closures_53 rfl (lv_at hl 1 rfl) ?_
      exact x_iret C S hr h dX12_closures_54
    · have h := it_n c5 h
      refine lv_iload_n hx hb dX12_closures_31 rfl (lv_at hl 1 rfl) ?_
      refine lv_aload_n hx hb dX12_closures_32 rfl (lv_at hl 0 rfl) ?_
      refine lv_iload_n hx hb dX12_closures_33 rfl (lv_at hl 2 rfl) ?_
      obtain ⟨a6, σ6, hc6, h⟩ := bd_el h
      refine x_callVI C S KX12 hx0 (ok_X12_beginsRun (L := L) hc6 hSh hx0) ⟨cd_X12_beginsRun, ni_RX12, ml_RX12_327, in_X12_beginsRun, sl_X12_beginsRun⟩ ⟨by decide, by decide⟩ rfl ⟨by decide, by decide⟩ hl.1 rfl (Nat.le_of_ble_eq_true rfl) ⟨by decide, by decide⟩ dX12_closures_34 (fun H locs S => ?_)
      refine lv_if_eq (tgt := 44) hx hb dX12_closures_37 (by decide) (fun c7 => ?_) (fun c7 => ?_)
      · have h := it_p c7 h
        refine lv_iconst (v := (0 : Int32)) hx hb dX12_closures_44 (by decide) ?_
        refine lv_iadd hx hb dX12_closures_45 ?_
        refine lv_istore_n (lv' := [(2, .int (x2 + (0 : Int32))), (0, .ref (gb g + x0)), (3, .int x3)]) hx hb dX12_closures_46 rfl hl (by decide) rfl (fun ls hl => ?_)
        refine lv_iinc (v := x3 + 1) (lv' := [(3, .int (x3 + 1)), (2, .int (x2 + (0 : Int32))), (0, .ref (gb g + x0))]) hx hb dX12_closures_47 hl (k := 2) rfl rfl (by decide) rfl (fun ls hl => ?_)
        refine lv_goto (tgt := 24) hx hb dX12_closures_50 (by decide) ?_
        exact ih σ6 x0 (x2 + (0 : Int32)) (x3 + 1) h hx0 H locs ls S (lv_sub hl [2, 1, 0] rfl)
      · have h := it_n c7 h
        refine lv_iconst (v := (1 : Int32)) hx hb dX12_closures_40 (by decide) ?_
        refine lv_goto (tgt := 45) hx hb dX12_closures_41 (by decide) ?_
        refine lv_iadd hx hb dX12_closures_45 ?_
        refine lv_istore_n (lv' := [(2, .int (x2 + (1 : Int32))), (0, .ref (gb g + x0)), (3, .int x3)]) hx hb dX12_closures_46 rfl hl (by decide) rfl (fun ls hl => ?_)
        refine lv_iinc (v := x3 + 1) (lv' := [(3, .int (x3 + 1)), (2, .int (x2 + (1 : Int32))), (0, .ref (gb g + x0))]) hx hb dX12_closures_47 hl (k := 2) rfl rfl (by decide) rfl (fun ls hl => ?_)
        refine lv_goto (tgt := 24) hx hb dX12_closures_50 (by decide) ?_
        exact ih σ6 x0 (x2 + (1 : Int32)) (x3 + 1) h hx0 H locs ls S (lv_sub hl [2, 1, 0] rfl)
set_option maxHeartbeats 4000000 in
set_option maxRecDepth 100000 in
theorem ok_X12_closures {l : Launch} {g : GL} {R : Nat → Nat → Nat} {L : Nat → Nat → Int64} {N : Nat} {σ : SI} {x0 : Nat} {x1 : Int32} {r : (Int32 × SI)} (h : f_X12_closures N R σ x0 x1 = some r) (hSh : ShR R) (hx0 : Ok 194 x0 12) : Ct l g 5 yX12_closures cX12_closures 4 (some .int) 194 194 0 0 [.ref (gb g + x0), .int x1] (mkS σ R L) (PI R L r) := by
  refine Met.ofW (cc := cX12_closures) (maxL := 4) (ret := (some .int)) (by decide) rfl ?_
  intro p e s m args below meth c s₁ B hml hv
  obtain ⟨rfl, hE, hLo, hWd⟩ := hv
  have hr : meth.sig.returnType = (some .int) := B.returns
  have C : Cx l g p s m meth c cX12_closures 4 RX12 := ⟨B.exec, B.bytes, hml, findClass_of_methodNamed B.named, hE, hLo, B.notSynchronized⟩
  have S : S2 g s σ R L s.heap [] := ⟨hWd, va_S.rf⟩
  have hx := C.1
  have hb := C.2.1
  have hl := lv_entry ([.ref (gb g + x0), .int x1]) (n := 4) (Nat.le_of_ble_eq_true rfl)
  rw [lg_entry_eq]
  generalize (lg_sl ([.ref (gb g + x0), .int x1]) ++ List.replicate (4 - (lg_sl ([.ref (gb g + x0), .int x1])).length) Slot.unset).toArray = ls at hl ⊢
  have hl : lv_has ls 4 [(0, .ref (gb g + x0)), (1, .int x1)] := hl
  generalize hH : s.heap = H at S ⊢
  generalize hlc : ([] : List Loc) = locs at S ⊢
  rw [f_X12_closures] at h
  refine lv_aload_n hx hb dX12_closures_0 rfl (lv_at hl 0 rfl) ?_
  refine lv_iconst (v := (0 : Int32)) hx hb dX12_closures_1 (by decide) ?_
  obtain ⟨σ1, hs1, h⟩ := sq_el h
  refine x_putI C S KX12 hx0 0 (by decide) rfl rfl rfl ⟨rfl, rfl⟩ fl_RX12_3 dX12_closures_2 hs1 (fun H locs S => ?_)
  refine lv_aload_n hx hb dX12_closures_5 rfl (lv_at hl 0 rfl) ?_
  refine lv_iload_n hx hb dX12_closures_6 rfl (lv_at hl 1 rfl) ?_
  obtain ⟨a2, σ2, hc2, h⟩ := bd_el h
  refine x_callVI C S KX12 hx0 (ok_X12_noRoad (L := L) hc2 hSh hx0) ⟨cd_X12_noRoad, ni_RX12, ml_RX12_257, in_X12_noRoad, sl_X12_noRoad⟩ ⟨by decide, by decide⟩ rfl ⟨by decide, by decide⟩ hl.1 rfl (Nat.le_of_ble_eq_true rfl) ⟨by decide, by decide⟩ dX12_closures_7 (fun H locs S => ?_)
  refine lv_if_eq (tgt := 15) hx hb dX12_closures_10 (by decide) (fun c3 => ?_) (fun c3 => ?_)
  · have h := it_p c3 h
    refine lv_aload_n hx hb dX12_closures_15 rfl (lv_at hl 0 rfl) ?_
    refine lv_iload_n hx hb dX12_closures_16 rfl (lv_at hl 1 rfl) ?_
    obtain ⟨a4, σ4, hc4, h⟩ := bd_el h
    refine x_callVV C S KX12 hx0 (ok_X12_paints (L := L) hc4 hSh hx0) ⟨cd_X12_paints, ni_RX12, ml_RX12_314, in_X12_paints, sl_X12_paints⟩ ⟨by decide, by decide⟩ rfl ⟨by decide, by decide⟩ hl.1 rfl (Nat.le_of_ble_eq_true rfl) ⟨by decide, by decide⟩ dX12_closures_17 (fun H locs S => ?_)
    refine lv_iconst (v := (0 : Int32)) hx hb dX12_closures_20 (by decide) ?_
    refine lv_istore_n (lv' := [(2, .int (0 : Int32)), (0, .ref (gb g + x0)), (1, .int x1)]) hx hb dX12_closures_21 rfl hl (by decide) rfl (fun ls hl => ?_)
    refine lv_iconst (v := (0 : Int32)) hx hb dX12_closures_22 (by decide) ?_
    refine lv_istore_n (lv' := [(3, .int (0 : Int32)), (2, .int (0 : Int32)), (0, .ref (gb g + x0)), (1, .int x1)]) hx hb dX12_closures_23 rfl hl (by decide) rfl (fun ls hl => ?_)
    exact w_X12_closures_24 C hr hSh N σ4 x0 (0 : Int32) (0 : Int32) h hx0 H locs ls S (lv_sub hl [2, 1, 0] rfl)
  · have h := it_n c3 h
    refine lv_iconst (v := (0 : Int32)) hx hb dX12_closures_13 (by decide) ?_
    exact x_iret C S hr h dX12_closures_14
theorem dX12_runAt_0 : decode cX12_runAt 0 = .ok (.aload_n 0, 1) := by decide +kernel
theorem dX12_runAt_1 : decode cX12_runAt 1 = .ok (.iload_n 1, 1) := by decide +kernel
theorem dX12_runAt_2 : decode cX12_runAt 2 = .ok (.invokevirtual 314, 3) := by decide +kernel
theorem dX12_runAt_5 : decode cX12_runAt 5 = .ok (.iconst 0, 1) := by decide +kernel
theorem dX12_runAt_6 : decode cX12_runAt 6 = .ok (.istore_n 3, 1) := by decide +kernel
theorem dX12_runAt_7 : decode cX12_runAt 7 = .ok (.iconst 0, 1) := by decide +kernel
theorem dX12_runAt_8 : decode cX12_runAt 8 = .ok (.istore 4, 2) := by decide +kernel
theorem dX12_runAt_10 : decode cX12_runAt 10 = .ok (.iload 4, 2) := by decide +kernel
theorem dX12_runAt_12 : decode cX12_runAt 12 = .ok (.sipush 1440, 3) := by decide +kernel
theorem dX12_runAt_15 : decode cX12_runAt 15 = .ok (.if_icmp .ge 32, 3) := by decide +kernel
theorem dX12_runAt_18 : decode cX12_runAt 18 = .ok (.aload_n 0, 1) := by decide +kernel
theorem dX12_runAt_19 : decode cX12_runAt 19 = .ok (.iload 4, 2) := by decide +kernel
theorem dX12_runAt_21 : decode cX12_runAt 21 = .ok (.invokevirtual 327, 3) := by decide +kernel
theorem dX12_runAt_24 : decode cX12_runAt 24 = .ok (.ifCond .ne 6, 3) := by decide +kernel
theorem dX12_runAt_27 : decode cX12_runAt 27 = .ok (.goto 14, 3) := by decide +kernel
theorem dX12_runAt_30 : decode cX12_runAt 30 = .ok (.iload_n 3, 1) := by decide +kernel
theorem dX12_runAt_31 : decode cX12_runAt 31 = .ok (.iload_n 2, 1) := by decide +kernel
theorem dX12_runAt_32 : decode cX12_runAt 32 = .ok (.if_icmp .ne 6, 3) := by decide +kernel
theorem dX12_runAt_35 : decode cX12_runAt 35 = .ok (.iload 4, 2) := by decide +kernel
theorem dX12_runAt_37 : decode cX12_runAt 37 = .ok (.ireturn, 1) := by decide +kernel
theorem dX12_runAt_38 : decode cX12_runAt 38 = .ok (.iinc 3 1, 3) := by decide +kernel
theorem dX12_runAt_41 : decode cX12_runAt 41 = .ok (.iinc 4 1, 3) := by decide +kernel
theorem dX12_runAt_44 : decode cX12_runAt 44 = .ok (.goto (-34), 3) := by decide +kernel
theorem dX12_runAt_47 : decode cX12_runAt 47 = .ok (.iconst (-1), 1) := by decide +kernel
theorem dX12_runAt_48 : decode cX12_runAt 48 = .ok (.ireturn, 1) := by decide +kernel
def f_X12_runAt_41 (N : Nat) (R : Nat → Nat → Nat) (k10 : SI → Nat → Int32 → Int32 → Int32 → Option (Int32 × SI)) (σ : SI) (x0 : Nat) (x2 : Int32) (x3 : Int32) (x4 : Int32) : Option (Int32 × SI) := k10 σ x0 x2 x3 (x4 + 1)
def f_X12_runAt_10 (N : Nat) (R : Nat → Nat → Nat) : Nat → SI → Nat → Int32 → Int32 → Int32 → Option (Int32 × SI)
  | 0, _, _, _, _, _ => none
  | n + 1, σ, x0, x2, x3, x4 => if (1440 : Int32) ≤ x4 then (some ((-1 : Int32), σ)) else (bd (f_X12_beginsRun N R σ x0 x4) (fun a3 σ3 => if a3 = 0 then (f_X12_runAt_41 N R (fun σ x0 x2 x3 x4 => f_X12_runAt_10 N R n σ x0 x2 x3 x4) σ3 x0 x2 x3 x4) else (if x3 = x2 then (some (x4, σ3)) else (f_X12_runAt_41 N R (fun σ x0 x2 x3 x4 => f_X12_runAt_10 N R n σ x0 x2 x3 x4) σ3 x0 x2 (x3 + 1) x4))))
def f_X12_runAt (N : Nat) (R : Nat → Nat → Nat) (σ : SI) (x0 : Nat) (x1 : Int32) (x2 : Int32) : Option (Int32 × SI) := bd (f_X12_paints N R σ x0 x1) (fun _ σ1 => f_X12_runAt_10 N R N σ1 x0 x2 (0 : Int32) (0 : Int32))
set_option maxHeartbeats 4000000 in
set_option maxRecDepth 100000 in
theorem w_X12_runAt_41 {l : Launch} {g : GL} {p : Program} {e : Jvm.Env} {s : State} {m : MethodId} {args : Array Value} {below : List Frame} {meth : Method} {c : Code} {R : Nat → Nat → Nat} {L : Nat → Nat → Int64} {r : (Int32 × SI)} {N : Nat} {k10 : SI → Nat → Int32 → Int32 → Int32 → Option (Int32 × SI)} (C : Cx l g p s m meth c cX12_runAt 5 RX12) (hr : meth.sig.returnType = (some .int)) (hSh : ShR R) (hk10 : ∀ (σ : SI) (x0 : Nat) (x2 : Int32) (x3 : Int32) (x4 : Int32), k10 σ x0 x2 x3 x4 = some r → Ok 194 x0 12 → ∀ (H : Heap) (locs : List Loc) (ls : Array Slot), S2 g s σ R L H locs → lv_has ls 5 [(0, .ref (gb g + x0)), (2, .int x2), (3, .int x3), (4, .int x4)] → W p l e (rmd 5 0 0) s m args below meth c H locs 0 0 (MQ below (Qg g 194 (PI R L r)) args s 0 0 (gA g)) (F0 m 10 ls [])) : ∀ (σ : SI) (x0 : Nat) (x2 : Int32) (x3 : Int32) (x4 : Int32), f_X12_runAt_41 N R k10 σ x0 x2 x3 x4 = some r → Ok 194 x0 12 → ∀ (H : Heap) (locs : List Loc) (ls : Array Slot), S2 g s σ R L H locs → lv_has ls 5 [(0, .ref (gb g + x0)), (2, .int x2), (3, .int x3), (4, .int x4)] → W p l e (rmd 5 0 0) s m args below meth c H locs 0 0 (MQ below (Qg g 194 (PI R L r)) args s 0 0 (gA g)) (F0 m 41 ls []) := by
  have hx := C.1
  have hb := C.2.1
  intro σ x0 x2 x3 x4 h hx0 H locs ls S hl
  rw [f_X12_runAt_41] at h
  refine lv_iinc (v := x4 + 1) (lv' := [(4, .int (x4 + 1)), (0, .ref (gb g + x0)), (2, .int x2), (3, .int x3)]) hx hb dX12_runAt_41 hl (k := 3) rfl rfl (by decide) rfl (fun ls hl => ?_)
  refine lv_goto (tgt := 10) hx hb dX12_runAt_44 (by decide) ?_
  exact hk10 σ x0 x2 x3 (x4 + 1) h hx0 H locs ls S (lv_sub hl [1, 2, 3, 0] rfl)
set_option maxHeartbeats 4000000 in
set_option maxRecDepth 100000 in
theorem w_X12_runAt_10 {l : Launch} {g : GL} {p : Program} {e : Jvm.Env} {s : State} {m : MethodId} {args : Array Value} {below : List Frame} {meth : Method} {c : Code} {R : Nat → Nat → Nat} {L : Nat → Nat → Int64} {r : (Int32 × SI)} {N : Nat} (C : Cx l g p s m meth c cX12_runAt 5 RX12) (hr : meth.sig.returnType = (some .int)) (hSh : ShR R) : ∀ (n : Nat) (σ : SI) (x0 : Nat) (x2 : Int32) (x3 : Int32) (x4 : Int32), f_X12_runAt_10 N R n σ x0 x2 x3 x4 = some r → Ok 194 x0 12 → ∀ (H : Heap) (locs : List Loc) (ls : Array Slot), S2 g s σ R L H locs → lv_has ls 5 [(0, .ref (gb g + x0)), (2, .int x2), (3, .int x3), (4, .int x4)] → W p l e (rmd 5 0 0) s m args below meth c H locs 0 0 (MQ below (Qg g 194 (PI R L r)) args s 0 0 (gA g)) (F0 m 10 ls []) := by
  have hx := C.1
  have hb := C.2.1
  intro n
  induction n with
  | zero =>
    intro σ x0 x2 x3 x4 h
    cases (show (none : Option (Int32 × SI)) = some r from h)
  | succ n ih =>
    intro σ x0 x2 x3 x4 h hx0 H locs ls S hl
    rw [f_X12_runAt_10] at h
    refine lv_iload hx hb dX12_runAt_10 (lv_at hl 3 rfl) ?_
    refine lv_sipush (v := (1440 : Int32)) hx hb dX12_runAt_12 (by decide) ?_
    refine lv_icmp_ge (tgt := 47) hx hb dX12_runAt_15 (by decide) (fun c2 => ?_) (fun c2 => ?_)
    · have h := it_p c2 h
      refine lv_iconst (v := (-1 : Int32)) hx hb dX12_runAt_47 (by decide) ?_
      exact x_iret C S hr h dX12_runAt_48
    · have h := it_n c2 h
      refine lv_aload_n hx hb dX12_runAt_18 rfl (lv_at hl 0 rfl) ?_
      refine lv_iload hx hb dX12_runAt_19 (lv_at hl 3 rfl) ?_
      obtain ⟨a3, σ3, hc3, h⟩ := bd_el h
      refine x_callVI C S KX12 hx0 (ok_X12_beginsRun (L := L) hc3 hSh hx0) ⟨cd_X12_beginsRun, ni_RX12, ml_RX12_327, in_X12_beginsRun, sl_X12_beginsRun⟩ ⟨by decide, by decide⟩ rfl ⟨by decide, by decide⟩ hl.1 rfl (Nat.le_of_ble_eq_true rfl) ⟨by decide, by decide⟩ dX12_runAt_21 (fun H locs S => ?_)
      refine lv_if_ne (tgt := 30) hx hb dX12_runAt_24 (by decide) (fun c4 => ?_) (fun c4 => ?_)
      · have h := it_n c4 h
        refine lv_iload_n hx hb dX12_runAt_30 rfl (lv_at hl 2 rfl) ?_
        refine lv_iload_n hx hb dX12_runAt_31 rfl (lv_at hl 1 rfl) ?_
        refine lv_icmp_ne (tgt := 38) hx hb dX12_runAt_32 (by decide) (fun c5 => ?_) (fun c5 => ?_)
        · have h := it_n c5 h
          refine lv_iinc (v := x3 + 1) (lv' := [(3, .int (x3 + 1)), (0, .ref (gb g + x0)), (2, .int x2), (4, .int x4)]) hx hb dX12_runAt_38 hl (k := 2) rfl rfl (by decide) rfl (fun ls hl => ?_)
          exact w_X12_runAt_41 C hr hSh ih σ3 x0 x2 (x3 + 1) x4 h hx0 H locs ls S (lv_sub hl [1, 2, 0, 3] rfl)
        · have h := it_p c5 h
          refine lv_iload hx hb dX12_runAt_35 (lv_at hl 3 rfl) ?_
          exact x_iret C S hr h dX12_runAt_37
      · have h := it_p c4 h
        refine lv_goto (tgt := 41) hx hb dX12_runAt_27 (by decide) ?_
        exact w_X12_runAt_41 C hr hSh ih σ3 x0 x2 x3 x4 h hx0 H locs ls S (lv_sub hl [0, 1, 2, 3] rfl)
set_option maxHeartbeats 4000000 in
set_option maxRecDepth 100000 in
theorem ok_X12_runAt {l : Launch} {g : GL} {R : Nat → Nat → Nat} {L : Nat → Nat → Int64} {N : Nat} {σ : SI} {x0 : Nat} {x1 : Int32} {x2 : Int32} {r : (Int32 × SI)} (h : f_X12_runAt N R σ x0 x1 x2 = some r) (hSh : ShR R) (hx0 : Ok 194 x0 12) : Ct l g 5 yX12_runAt cX12_runAt 5 (some .int) 194 194 0 0 [.ref (gb g + x0), .int x1, .int x2] (mkS σ R L) (PI R L r) := by
  refine Met.ofW (cc := cX12_runAt) (maxL := 5) (ret := (some .int)) (by decide) rfl ?_
  intro p e s m args below meth c s₁ B hml hv
  obtain ⟨rfl, hE, hLo, hWd⟩ := hv
  have hr : meth.sig.returnType = (some .int) := B.returns
  have C : Cx l g p s m meth c cX12_runAt 5 RX12 := ⟨B.exec, B.bytes, hml, findClass_of_methodNamed B.named, hE, hLo, B.notSynchronized⟩
  have S : S2 g s σ R L s.heap [] := ⟨hWd, va_S.rf⟩
  have hx := C.1
  have hb := C.2.1
  have hl := lv_entry ([.ref (gb g + x0), .int x1, .int x2]) (n := 5) (Nat.le_of_ble_eq_true rfl)
  rw [lg_entry_eq]
  generalize (lg_sl ([.ref (gb g + x0), .int x1, .int x2]) ++ List.replicate (5 - (lg_sl ([.ref (gb g + x0), .int x1, .int x2])).length) Slot.unset).toArray = ls at hl ⊢
  have hl : lv_has ls 5 [(0, .ref (gb g + x0)), (1, .int x1), (2, .int x2)] := hl
  generalize hH : s.heap = H at S ⊢
  generalize hlc : ([] : List Loc) = locs at S ⊢
  rw [f_X12_runAt] at h
  refine lv_aload_n hx hb dX12_runAt_0 rfl (lv_at hl 0 rfl) ?_
  refine lv_iload_n hx hb dX12_runAt_1 rfl (lv_at hl 1 rfl) ?_
  obtain ⟨a1, σ1, hc1, h⟩ := bd_el h
  refine x_callVV C S KX12 hx0 (ok_X12_paints (L := L) hc1 hSh hx0) ⟨cd_X12_paints, ni_RX12, ml_RX12_314, in_X12_paints, sl_X12_paints⟩ ⟨by decide, by decide⟩ rfl ⟨by decide, by decide⟩ hl.1 rfl (Nat.le_of_ble_eq_true rfl) ⟨by decide, by decide⟩ dX12_runAt_2 (fun H locs S => ?_)
  refine lv_iconst (v := (0 : Int32)) hx hb dX12_runAt_5 (by decide) ?_
  refine lv_istore_n (lv' := [(3, .int (0 : Int32)), (0, .ref (gb g + x0)), (1, .int x1), (2, .int x2)]) hx hb dX12_runAt_6 rfl hl (by decide) rfl (fun ls hl => ?_)
  refine lv_iconst (v := (0 : Int32)) hx hb dX12_runAt_7 (by decide) ?_
  refine lv_istore (lv' := [(4, .int (0 : Int32)), (3, .int (0 : Int32)), (0, .ref (gb g + x0)), (1, .int x1), (2, .int x2)]) hx hb dX12_runAt_8 hl (by decide) rfl (fun ls hl => ?_)
  exact w_X12_runAt_10 C hr hSh N σ1 x0 x2 (0 : Int32) (0 : Int32) h hx0 H locs ls S (lv_sub hl [2, 4, 1, 0] rfl)
theorem dX12_closureStart_0 : decode cX12_closureStart 0 = .ok (.aload_n 0, 1) := by decide +kernel
theorem dX12_closureStart_1 : decode cX12_closureStart 1 = .ok (.iconst 0, 1) := by decide +kernel
theorem dX12_closureStart_2 : decode cX12_closureStart 2 = .ok (.putfield 3, 3) := by decide +kernel
theorem dX12_closureStart_5 : decode cX12_closureStart 5 = .ok (.aload_n 0, 1) := by decide +kernel
theorem dX12_closureStart_6 : decode cX12_closureStart 6 = .ok (.iload_n 1, 1) := by decide +kernel
theorem dX12_closureStart_7 : decode cX12_closureStart 7 = .ok (.invokevirtual 257, 3) := by decide +kernel
theorem dX12_closureStart_10 : decode cX12_closureStart 10 = .ok (.ifCond .eq 7, 3) := by decide +kernel
theorem dX12_closureStart_13 : decode cX12_closureStart 13 = .ok (.iconst 0, 1) := by decide +kernel
theorem dX12_closureStart_14 : decode cX12_closureStart 14 = .ok (.goto 9, 3) := by decide +kernel
theorem dX12_closureStart_17 : decode cX12_closureStart 17 = .ok (.aload_n 0, 1) := by decide +kernel
theorem dX12_closureStart_18 : decode cX12_closureStart 18 = .ok (.iload_n 1, 1) := by decide +kernel
theorem dX12_closureStart_19 : decode cX12_closureStart 19 = .ok (.iload_n 2, 1) := by decide +kernel
theorem dX12_closureStart_20 : decode cX12_closureStart 20 = .ok (.invokevirtual 330, 3) := by decide +kernel
theorem dX12_closureStart_23 : decode cX12_closureStart 23 = .ok (.ireturn, 1) := by decide +kernel
def f_X12_closureStart (N : Nat) (R : Nat → Nat → Nat) (σ : SI) (x0 : Nat) (x1 : Int32) (x2 : Int32) : Option (Int32 × SI) := sq (up σ x0 0 (0 : Int32)) (fun σ1 => bd (f_X12_noRoad N R σ1 x0 x1) (fun a2 σ2 => if a2 = 0 then (bd (f_X12_runAt N R σ2 x0 x1 x2) (fun a4 σ4 => some (a4, σ4))) else (some ((0 : Int32), σ2))))
set_option maxHeartbeats 4000000 in
set_option maxRecDepth 100000 in
theorem ok_X12_closureStart {l : Launch} {g : GL} {R : Nat → Nat → Nat} {L : Nat → Nat → Int64} {N : Nat} {σ : SI} {x0 : Nat} {x1 : Int32} {x2 : Int32} {r : (Int32 × SI)} (h : f_X12_closureStart N R σ x0 x1 x2 = some r) (hSh : ShR R) (hx0 : Ok 194 x0 12) : Ct l g 6 yX12_closureStart cX12_closureStart 3 (some .int) 194 194 0 0 [.ref (gb g + x0), .int x1, .int x2] (mkS σ R L) (PI R L r) := by
  refine Met.ofW (cc := cX12_closureStart) (maxL := 3) (ret := (some .int)) (by decide) rfl ?_
  intro p e s m args below meth c s₁ B hml hv
  obtain ⟨rfl, hE, hLo, hWd⟩ := hv
  have hr : meth.sig.returnType = (some .int) := B.returns
  have C : Cx l g p s m meth c cX12_closureStart 3 RX12 := ⟨B.exec, B.bytes, hml, findClass_of_methodNamed B.named, hE, hLo, B.notSynchronized⟩
  have S : S2 g s σ R L s.heap [] := ⟨hWd, va_S.rf⟩
  have hx := C.1
  have hb := C.2.1
  have hl := lv_entry ([.ref (gb g + x0), .int x1, .int x2]) (n := 3) (Nat.le_of_ble_eq_true rfl)
  rw [lg_entry_eq]
  generalize (lg_sl ([.ref (gb g + x0), .int x1, .int x2]) ++ List.replicate (3 - (lg_sl ([.ref (gb g + x0), .int x1, .int x2])).length) Slot.unset).toArray = ls at hl ⊢
  have hl : lv_has ls 3 [(0, .ref (gb g + x0)), (1, .int x1), (2, .int x2)] := hl
  generalize hH : s.heap = H at S ⊢
  generalize hlc : ([] : List Loc) = locs at S ⊢
  rw [f_X12_closureStart] at h
  refine lv_aload_n hx hb dX12_closureStart_0 rfl (lv_at hl 0 rfl) ?_
  refine lv_iconst (v := (0 : Int32)) hx hb dX12_closureStart_1 (by decide) ?_
  obtain ⟨σ1, hs1, h⟩ := sq_el h
  refine x_putI C S KX12 hx0 0 (by decide) rfl rfl rfl ⟨rfl, rfl⟩ fl_RX12_3 dX12_closureStart_2 hs1 (fun H locs S => ?_)
  refine lv_aload_n hx hb dX12_closureStart_5 rfl (lv_at hl 0 rfl) ?_
  refine lv_iload_n hx hb dX12_closureStart_6 rfl (lv_at hl 1 rfl) ?_
  obtain ⟨a2, σ2, hc2, h⟩ := bd_el h
  refine x_callVI C S KX12 hx0 (ok_X12_noRoad (L := L) hc2 hSh hx0) ⟨cd_X12_noRoad, ni_RX12, ml_RX12_257, in_X12_noRoad, sl_X12_noRoad⟩ ⟨by decide, by decide⟩ rfl ⟨by decide, by decide⟩ hl.1 rfl (Nat.le_of_ble_eq_true rfl) ⟨by decide, by decide⟩ dX12_closureStart_7 (fun H locs S => ?_)
  refine lv_if_eq (tgt := 17) hx hb dX12_closureStart_10 (by decide) (fun c3 => ?_) (fun c3 => ?_)
  · have h := it_p c3 h
    refine lv_aload_n hx hb dX12_closureStart_17 rfl (lv_at hl 0 rfl) ?_
    refine lv_iload_n hx hb dX12_closureStart_18 rfl (lv_at hl 1 rfl) ?_
    refine lv_iload_n hx hb dX12_closureStart_19 rfl (lv_at hl 2 rfl) ?_
    obtain ⟨a4, σ4, hc4, h⟩ := bd_el h
    refine x_callVI C S KX12 hx0 (ok_X12_runAt (L := L) hc4 hSh hx0) ⟨cd_X12_runAt, ni_RX12, ml_RX12_330, in_X12_runAt, sl_X12_runAt⟩ ⟨by decide, by decide⟩ rfl ⟨by decide, by decide⟩ hl.1 rfl (Nat.le_of_ble_eq_true rfl) ⟨by decide, by decide⟩ dX12_closureStart_20 (fun H locs S => ?_)
    exact x_iret C S hr h dX12_closureStart_23
  · have h := it_n c3 h
    refine lv_iconst (v := (0 : Int32)) hx hb dX12_closureStart_13 (by decide) ?_
    refine lv_goto (tgt := 23) hx hb dX12_closureStart_14 (by decide) ?_
    exact x_iret C S hr h dX12_closureStart_23
theorem dX12_closureLength_0 : decode cX12_closureLength 0 = .ok (.aload_n 0, 1) := by decide +kernel
theorem dX12_closureLength_1 : decode cX12_closureLength 1 = .ok (.iconst 0, 1) := by decide +kernel
theorem dX12_closureLength_2 : decode cX12_closureLength 2 = .ok (.putfield 3, 3) := by decide +kernel
theorem dX12_closureLength_5 : decode cX12_closureLength 5 = .ok (.aload_n 0, 1) := by decide +kernel
theorem dX12_closureLength_6 : decode cX12_closureLength 6 = .ok (.iload_n 1, 1) := by decide +kernel
theorem dX12_closureLength_7 : decode cX12_closureLength 7 = .ok (.invokevirtual 257, 3) := by decide +kernel
theorem dX12_closureLength_10 : decode cX12_closureLength 10 = .ok (.ifCond .eq 5, 3) := by decide +kernel
theorem dX12_closureLength_13 : decode cX12_closureLength 13 = .ok (.iconst 0, 1) := by decide +kernel
theorem dX12_closureLength_14 : decode cX12_closureLength 14 = .ok (.ireturn, 1) := by decide +kernel
theorem dX12_closureLength_15 : decode cX12_closureLength 15 = .ok (.aload_n 0, 1) := by decide +kernel
theorem dX12_closureLength_16 : decode cX12_closureLength 16 = .ok (.iload_n 1, 1) := by decide +kernel
theorem dX12_closureLength_17 : decode cX12_closureLength 17 = .ok (.iload_n 2, 1) := by decide +kernel
theorem dX12_closureLength_18 : decode cX12_closureLength 18 = .ok (.invokevirtual 330, 3) := by decide +kernel
theorem dX12_closureLength_21 : decode cX12_closureLength 21 = .ok (.istore_n 3, 1) := by decide +kernel
theorem dX12_closureLength_22 : decode cX12_closureLength 22 = .ok (.iload_n 3, 1) := by decide +kernel
theorem dX12_closureLength_23 : decode cX12_closureLength 23 = .ok (.iconst (-1), 1) := by decide +kernel
theorem dX12_closureLength_24 : decode cX12_closureLength 24 = .ok (.if_icmp .ne 5, 3) := by decide +kernel
theorem dX12_closureLength_27 : decode cX12_closureLength 27 = .ok (.iconst (-1), 1) := by decide +kernel
theorem dX12_closureLength_28 : decode cX12_closureLength 28 = .ok (.ireturn, 1) := by decide +kernel
theorem dX12_closureLength_29 : decode cX12_closureLength 29 = .ok (.iload_n 3, 1) := by decide +kernel
theorem dX12_closureLength_30 : decode cX12_closureLength 30 = .ok (.istore 4, 2) := by decide +kernel
theorem dX12_closureLength_32 : decode cX12_closureLength 32 = .ok (.iload 4, 2) := by decide +kernel
theorem dX12_closureLength_34 : decode cX12_closureLength 34 = .ok (.sipush 1440, 3) := by decide +kernel
theorem dX12_closureLength_37 : decode cX12_closureLength 37 = .ok (.if_icmp .ge 19, 3) := by decide +kernel
theorem dX12_closureLength_40 : decode cX12_closureLength 40 = .ok (.aload_n 0, 1) := by decide +kernel
theorem dX12_closureLength_41 : decode cX12_closureLength 41 = .ok (.getfield 103, 3) := by decide +kernel
theorem dX12_closureLength_44 : decode cX12_closureLength 44 = .ok (.iload 4, 2) := by decide +kernel
theorem dX12_closureLength_46 : decode cX12_closureLength 46 = .ok (.baload, 1) := by decide +kernel
theorem dX12_closureLength_47 : decode cX12_closureLength 47 = .ok (.ifCond .eq 9, 3) := by decide +kernel
theorem dX12_closureLength_50 : decode cX12_closureLength 50 = .ok (.iinc 4 1, 3) := by decide +kernel
theorem dX12_closureLength_53 : decode cX12_closureLength 53 = .ok (.goto (-21), 3) := by decide +kernel
theorem dX12_closureLength_56 : decode cX12_closureLength 56 = .ok (.iload 4, 2) := by decide +kernel
theorem dX12_closureLength_58 : decode cX12_closureLength 58 = .ok (.iload_n 3, 1) := by decide +kernel
theorem dX12_closureLength_59 : decode cX12_closureLength 59 = .ok (.isub, 1) := by decide +kernel
theorem dX12_closureLength_60 : decode cX12_closureLength 60 = .ok (.ireturn, 1) := by decide +kernel
def f_X12_closureLength_32 (N : Nat) (R : Nat → Nat → Nat) : Nat → SI → Nat → Int32 → Int32 → Option (Int32 × SI)
  | 0, _, _, _, _ => none
  | n + 1, σ, x0, x3, x4 => if (1440 : Int32) ≤ x4 then (some (x4 - x3, σ)) else (ck x4 1440 (if (σ (R x0 17) x4.toNatClampNeg) = 0 then (some (x4 - x3, σ)) else (f_X12_closureLength_32 N R n σ x0 x3 (x4 + 1))))
def f_X12_closureLength (N : Nat) (R : Nat → Nat → Nat) (σ : SI) (x0 : Nat) (x1 : Int32) (x2 : Int32) : Option (Int32 × SI) := sq (up σ x0 0 (0 : Int32)) (fun σ1 => bd (f_X12_noRoad N R σ1 x0 x1) (fun a2 σ2 => if a2 = 0 then (bd (f_X12_runAt N R σ2 x0 x1 x2) (fun a4 σ4 => if a4 = (-1 : Int32) then (some ((-1 : Int32), σ4)) else (f_X12_closureLength_32 N R N σ4 x0 a4 a4))) else (some ((0 : Int32), σ2))))
set_option maxHeartbeats 4000000 in
set_option maxRecDepth 100000 in
theorem w_X12_closureLength_32 {l : Launch} {g : GL} {p : Program} {e : Jvm.Env} {s : State} {m : MethodId} {args : Array Value} {below : List Frame} {meth : Method} {c : Code} {R : Nat → Nat → Nat} {L : Nat → Nat → Int64} {r : (Int32 × SI)} {N : Nat} (C : Cx l g p s m meth c cX12_closureLength 5 RX12) (hr : meth.sig.returnType = (some .int)) (hSh : ShR R) : ∀ (n : Nat) (σ : SI) (x0 : Nat) (x3 : Int32) (x4 : Int32), f_X12_closureLength_32 N R n σ x0 x3 x4 = some r → Ok 194 x0 12 → ∀ (H : Heap) (locs : List Loc) (ls : Array Slot), S2 g s σ R L H locs → lv_has ls 5 [(0, .ref (gb g + x0)), (3, .int x3), (4, .int x4)] → W p l e (rmd 6 0 0) s m args below meth c H locs 0 0 (MQ below (Qg g 194 (PI R L r)) args s 0 0 (gA g)) (F0 m 32 ls []) := by
  have hx := C.1
  have hb := C.2.1
  intro n
  induction n with
  | zero =>
    intro σ x0 x3 x4 h
    cases (show (none : Option (Int32 × SI)) = some r from h)
  | succ n ih =>
    intro σ x0 x3 x4 h hx0 H locs ls S hl
    rw [f_X12_closureLength_32] at h
    refine lv_iload hx hb dX12_closureLength_32 (lv_at hl 2 rfl) ?_
    refine lv_sipush (v := (1440 : Int32)) hx hb dX12_closureLength_34 (by decide) ?_
    refine lv_icmp_ge (tgt := 56) hx hb dX12_closureLength_37 (by decide) (fun c6 => ?_) (fun c6 => ?_)
    · have h := it_p c6 h
      refine lv_iload hx hb dX12_closureLength_56 (lv_at hl 2 rfl) ?_
      refine lv_iload_n hx hb dX12_closureLength_58 rfl (lv_at hl 1 rfl) ?_
      refine lv_isub hx hb dX12_closureLength_59 ?_
      exact x_iret C S hr h dX12_closureLength_60
    · have h := it_n c6 h
      refine lv_aload_n hx hb dX12_closureLength_40 rfl (lv_at hl 0 rfl) ?_
      have hR7 : Ok 194 (R x0 17) 31440 := hSh x0 12 17 31440 hx0.1 rfl
      refine x_getR C S KX12 hx0 17 (by decide) rfl rfl fl_RX12_103 hR7 dX12_closureLength_41 ?_
      refine lv_iload hx hb dX12_closureLength_44 (lv_at hl 2 rfl) ?_
      obtain ⟨hi8, h⟩ := ck_el h
      refine x_zald (len := 1440) C S (by decide) hR7 hi8 dX12_closureLength_46 ?_
      refine lv_if_eq (tgt := 56) hx hb dX12_closureLength_47 (by decide) (fun c9 => ?_) (fun c9 => ?_)
      · have h := it_p c9 h
        refine lv_iload hx hb dX12_closureLength_56 (lv_at hl 2 rfl) ?_
        refine lv_iload_n hx hb dX12_closureLength_58 rfl (lv_at hl 1 rfl) ?_
        refine lv_isub hx hb dX12_closureLength_59 ?_
        exact x_iret C S hr h dX12_closureLength_60
      · have h := it_n c9 h
        refine lv_iinc (v := x4 + 1) (lv' := [(4, .int (x4 + 1)), (0, .ref (gb g + x0)), (3, .int x3)]) hx hb dX12_closureLength_50 hl (k := 2) rfl rfl (by decide) rfl (fun ls hl => ?_)
        refine lv_goto (tgt := 32) hx hb dX12_closureLength_53 (by decide) ?_
        exact ih σ x0 x3 (x4 + 1) h hx0 H locs ls S (lv_sub hl [1, 2, 0] rfl)
set_option maxHeartbeats 4000000 in
set_option maxRecDepth 100000 in
theorem ok_X12_closureLength {l : Launch} {g : GL} {R : Nat → Nat → Nat} {L : Nat → Nat → Int64} {N : Nat} {σ : SI} {x0 : Nat} {x1 : Int32} {x2 : Int32} {r : (Int32 × SI)} (h : f_X12_closureLength N R σ x0 x1 x2 = some r) (hSh : ShR R) (hx0 : Ok 194 x0 12) : Ct l g 6 yX12_closureLength cX12_closureLength 5 (some .int) 194 194 0 0 [.ref (gb g + x0), .int x1, .int x2] (mkS σ R L) (PI R L r) := by
  refine Met.ofW (cc := cX12_closureLength) (maxL := 5) (ret := (some .int)) (by decide) rfl ?_
  intro p e s m args below meth c s₁ B hml hv
  obtain ⟨rfl, hE, hLo, hWd⟩ := hv
  have hr : meth.sig.returnType = (some .int) := B.returns
  have C : Cx l g p s m meth c cX12_closureLength 5 RX12 := ⟨B.exec, B.bytes, hml, findClass_of_methodNamed B.named, hE, hLo, B.notSynchronized⟩
  have S : S2 g s σ R L s.heap [] := ⟨hWd, va_S.rf⟩
  have hx := C.1
  have hb := C.2.1
  have hl := lv_entry ([.ref (gb g + x0), .int x1, .int x2]) (n := 5) (Nat.le_of_ble_eq_true rfl)
  rw [lg_entry_eq]
  generalize (lg_sl ([.ref (gb g + x0), .int x1, .int x2]) ++ List.replicate (5 - (lg_sl ([.ref (gb g + x0), .int x1, .int x2])).length) Slot.unset).toArray = ls at hl ⊢
  have hl : lv_has ls 5 [(0, .ref (gb g + x0)), (1, .int x1), (2, .int x2)] := hl
  generalize hH : s.heap = H at S ⊢
  generalize hlc : ([] : List Loc) = locs at S ⊢
  rw [f_X12_closureLength] at h
  refine lv_aload_n hx hb dX12_closureLength_0 rfl (lv_at hl 0 rfl) ?_
  refine lv_iconst (v := (0 : Int32)) hx hb dX12_closureLength_1 (by decide) ?_
  obtain ⟨σ1, hs1, h⟩ := sq_el h
  refine x_putI C S KX12 hx0 0 (by decide) rfl rfl rfl ⟨rfl, rfl⟩ fl_RX12_3 dX12_closureLength_2 hs1 (fun H locs S => ?_)
  refine lv_aload_n hx hb dX12_closureLength_5 rfl (lv_at hl 0 rfl) ?_
  refine lv_iload_n hx hb dX12_closureLength_6 rfl (lv_at hl 1 rfl) ?_
  obtain ⟨a2, σ2, hc2, h⟩ := bd_el h
  refine x_callVI C S KX12 hx0 (ok_X12_noRoad (L := L) hc2 hSh hx0) ⟨cd_X12_noRoad, ni_RX12, ml_RX12_257, in_X12_noRoad, sl_X12_noRoad⟩ ⟨by decide, by decide⟩ rfl ⟨by decide, by decide⟩ hl.1 rfl (Nat.le_of_ble_eq_true rfl) ⟨by decide, by decide⟩ dX12_closureLength_7 (fun H locs S => ?_)
  refine lv_if_eq (tgt := 15) hx hb dX12_closureLength_10 (by decide) (fun c3 => ?_) (fun c3 => ?_)
  · have h := it_p c3 h
    refine lv_aload_n hx hb dX12_closureLength_15 rfl (lv_at hl 0 rfl) ?_
    refine lv_iload_n hx hb dX12_closureLength_16 rfl (lv_at hl 1 rfl) ?_
    refine lv_iload_n hx hb dX12_closureLength_17 rfl (lv_at hl 2 rfl) ?_
    obtain ⟨a4, σ4, hc4, h⟩ := bd_el h
    refine x_callVI C S KX12 hx0 (ok_X12_runAt (L := L) hc4 hSh hx0) ⟨cd_X12_runAt, ni_RX12, ml_RX12_330, in_X12_runAt, sl_X12_runAt⟩ ⟨by decide, by decide⟩ rfl ⟨by decide, by decide⟩ hl.1 rfl (Nat.le_of_ble_eq_true rfl) ⟨by decide, by decide⟩ dX12_closureLength_18 (fun H locs S => ?_)
    refine lv_istore_n (lv' := [(3, .int a4), (0, .ref (gb g + x0)), (1, .int x1), (2, .int x2)]) hx hb dX12_closureLength_21 rfl hl (by decide) rfl (fun ls hl => ?_)
    refine lv_iload_n hx hb dX12_closureLength_22 rfl (lv_at hl 0 rfl) ?_
    refine lv_iconst (v := (-1 : Int32)) hx hb dX12_closureLength_23 (by decide) ?_
    refine lv_icmp_ne (tgt := 29) hx hb dX12_closureLength_24 (by decide) (fun c5 => ?_) (fun c5 => ?_)
    · have h := it_n c5 h
      refine lv_iload_n hx hb dX12_closureLength_29 rfl (lv_at hl 0 rfl) ?_
      refine lv_istore (lv' := [(4, .int a4), (3, .int a4), (0, .ref (gb g + x0)), (1, .int x1), (2, .int x2)]) hx hb dX12_closureLength_30 hl (by decide) rfl (fun ls hl => ?_)
      exact w_X12_closureLength_32 C hr hSh N σ4 x0 a4 a4 h hx0 H locs ls S (lv_sub hl [2, 1, 0] rfl)
    · have h := it_p c5 h
      refine lv_iconst (v := (-1 : Int32)) hx hb dX12_closureLength_27 (by decide) ?_
      exact x_iret C S hr h dX12_closureLength_28
  · have h := it_n c3 h
    refine lv_iconst (v := (0 : Int32)) hx hb dX12_closureLength_13 (by decide) ?_
    exact x_iret C S hr h dX12_closureLength_14
theorem dX12_openMinutes_0 : decode cX12_openMinutes 0 = .ok (.aload_n 0, 1) := by decide +kernel
theorem dX12_openMinutes_1 : decode cX12_openMinutes 1 = .ok (.iconst 0, 1) := by decide +kernel
theorem dX12_openMinutes_2 : decode cX12_openMinutes 2 = .ok (.putfield 3, 3) := by decide +kernel
theorem dX12_openMinutes_5 : decode cX12_openMinutes 5 = .ok (.aload_n 0, 1) := by decide +kernel
theorem dX12_openMinutes_6 : decode cX12_openMinutes 6 = .ok (.iload_n 1, 1) := by decide +kernel
theorem dX12_openMinutes_7 : decode cX12_openMinutes 7 = .ok (.invokevirtual 257, 3) := by decide +kernel
theorem dX12_openMinutes_10 : decode cX12_openMinutes 10 = .ok (.ifCond .ne 38, 3) := by decide +kernel
theorem dX12_openMinutes_13 : decode cX12_openMinutes 13 = .ok (.aload_n 0, 1) := by decide +kernel
theorem dX12_openMinutes_14 : decode cX12_openMinutes 14 = .ok (.iload_n 2, 1) := by decide +kernel
theorem dX12_openMinutes_15 : decode cX12_openMinutes 15 = .ok (.iconst 0, 1) := by decide +kernel
theorem dX12_openMinutes_16 : decode cX12_openMinutes 16 = .ok (.sipush 1439, 3) := by decide +kernel
theorem dX12_openMinutes_19 : decode cX12_openMinutes 19 = .ok (.invokestatic 71, 3) := by decide +kernel
theorem dX12_openMinutes_22 : decode cX12_openMinutes 22 = .ok (.ifCond .eq 14, 3) := by decide +kernel
theorem dX12_openMinutes_25 : decode cX12_openMinutes 25 = .ok (.iload_n 3, 1) := by decide +kernel
theorem dX12_openMinutes_26 : decode cX12_openMinutes 26 = .ok (.iload_n 2, 1) := by decide +kernel
theorem dX12_openMinutes_27 : decode cX12_openMinutes 27 = .ok (.sipush 1439, 3) := by decide +kernel
theorem dX12_openMinutes_30 : decode cX12_openMinutes 30 = .ok (.invokestatic 71, 3) := by decide +kernel
theorem dX12_openMinutes_33 : decode cX12_openMinutes 33 = .ok (.ifCond .ne 7, 3) := by decide +kernel
theorem dX12_openMinutes_36 : decode cX12_openMinutes 36 = .ok (.iconst 1, 1) := by decide +kernel
theorem dX12_openMinutes_37 : decode cX12_openMinutes 37 = .ok (.goto 4, 3) := by decide +kernel
theorem dX12_openMinutes_40 : decode cX12_openMinutes 40 = .ok (.iconst 0, 1) := by decide +kernel
theorem dX12_openMinutes_41 : decode cX12_openMinutes 41 = .ok (.iconst 2, 1) := by decide +kernel
theorem dX12_openMinutes_42 : decode cX12_openMinutes 42 = .ok (.invokevirtual 185, 3) := by decide +kernel
theorem dX12_openMinutes_45 : decode cX12_openMinutes 45 = .ok (.ifCond .eq 5, 3) := by decide +kernel
theorem dX12_openMinutes_48 : decode cX12_openMinutes 48 = .ok (.iconst 0, 1) := by decide +kernel
theorem dX12_openMinutes_49 : decode cX12_openMinutes 49 = .ok (.ireturn, 1) := by decide +kernel
theorem dX12_openMinutes_50 : decode cX12_openMinutes 50 = .ok (.aload_n 0, 1) := by decide +kernel
theorem dX12_openMinutes_51 : decode cX12_openMinutes 51 = .ok (.iload_n 1, 1) := by decide +kernel
theorem dX12_openMinutes_52 : decode cX12_openMinutes 52 = .ok (.invokevirtual 314, 3) := by decide +kernel
theorem dX12_openMinutes_55 : decode cX12_openMinutes 55 = .ok (.iload_n 3, 1) := by decide +kernel
theorem dX12_openMinutes_56 : decode cX12_openMinutes 56 = .ok (.iload_n 2, 1) := by decide +kernel
theorem dX12_openMinutes_57 : decode cX12_openMinutes 57 = .ok (.isub, 1) := by decide +kernel
theorem dX12_openMinutes_58 : decode cX12_openMinutes 58 = .ok (.iconst 1, 1) := by decide +kernel
theorem dX12_openMinutes_59 : decode cX12_openMinutes 59 = .ok (.iadd, 1) := by decide +kernel
theorem dX12_openMinutes_60 : decode cX12_openMinutes 60 = .ok (.aload_n 0, 1) := by decide +kernel
theorem dX12_openMinutes_61 : decode cX12_openMinutes 61 = .ok (.iload_n 2, 1) := by decide +kernel
theorem dX12_openMinutes_62 : decode cX12_openMinutes 62 = .ok (.iload_n 3, 1) := by decide +kernel
theorem dX12_openMinutes_63 : decode cX12_openMinutes 63 = .ok (.invokevirtual 318, 3) := by decide +kernel
theorem dX12_openMinutes_66 : decode cX12_openMinutes 66 = .ok (.isub, 1) := by decide +kernel
theorem dX12_openMinutes_67 : decode cX12_openMinutes 67 = .ok (.ireturn, 1) := by decide +kernel
def f_X12_openMinutes (N : Nat) (R : Nat → Nat → Nat) (σ : SI) (x0 : Nat) (x1 : Int32) (x2 : Int32) (x3 : Int32) : Option (Int32 × SI) := sq (up σ x0 0 (0 : Int32)) (fun σ1 => bd (f_X12_noRoad N R σ1 x0 x1) (fun a2 σ2 => if a2 = 0 then (bd (f_X12_in N R σ2 x2 (0 : Int32) (1439 : Int32)) (fun a4 σ4 => if a4 = 0 then (bd (f_X12_throwsIf N R σ4 x0 (1 : Int32) (2 : Int32)) (fun a6 σ6 => if a6 = 0 then (bd (f_X12_paints N R σ6 x0 x1) (fun _ σ8 => bd (f_X12_paintedIn N R σ8 x0 x2 x3) (fun a9 σ9 => some (((x3 - x2) + (1 : Int32)) - a9, σ9)))) else (some ((0 : Int32), σ6)))) else (bd (f_X12_in N R σ4 x3 x2 (1439 : Int32)) (fun a10 σ10 => if a10 = 0 then (bd (f_X12_throwsIf N R σ10 x0 (1 : Int32) (2 : Int32)) (fun a16 σ16 => if a16 = 0 then (bd (f_X12_paints N R σ16 x0 x1) (fun _ σ18 => bd (f_X12_paintedIn N R σ18 x0 x2 x3) (fun a19 σ19 => some (((x3 - x2) + (1 : Int32)) - a19, σ19)))) else (some ((0 : Int32), σ16)))) else (bd (f_X12_throwsIf N R σ10 x0 (0 : Int32) (2 : Int32)) (fun a12 σ12 => if a12 = 0 then (bd (f_X12_paints N R σ12 x0 x1) (fun _ σ14 => bd (f_X12_paintedIn N R σ14 x0 x2 x3) (fun a15 σ15 => some (((x3 - x2) + (1 : Int32)) - a15, σ15)))) else (some ((0 : Int32), σ12)))))))) else (some ((0 : Int32), σ2))))
set_option maxHeartbeats 4000000 in
set_option maxRecDepth 100000 in
theorem ok_X12_openMinutes {l : Launch} {g : GL} {R : Nat → Nat → Nat} {L : Nat → Nat → Int64} {N : Nat} {σ : SI} {x0 : Nat} {x1 : Int32} {x2 : Int32} {x3 : Int32} {r : (Int32 × SI)} (h : f_X12_openMinutes N R σ x0 x1 x2 x3 = some r) (hSh : ShR R) (hx0 : Ok 194 x0 12) : Ct l g 5 yX12_openMinutes cX12_openMinutes 4 (some .int) 194 194 0 0 [.ref (gb g + x0), .int x1, .int x2, .int x3] (mkS σ R L) (PI R L r) := by
  refine Met.ofW (cc := cX12_openMinutes) (maxL := 4) (ret := (some .int)) (by decide) rfl ?_
  intro p e s m args below meth c s₁ B hml hv
  obtain ⟨rfl, hE, hLo, hWd⟩ := hv
  have hr : meth.sig.returnType = (some .int) := B.returns
  have C : Cx l g p s m meth c cX12_openMinutes 4 RX12 := ⟨B.exec, B.bytes, hml, findClass_of_methodNamed B.named, hE, hLo, B.notSynchronized⟩
  have S : S2 g s σ R L s.heap [] := ⟨hWd, va_S.rf⟩
  have hx := C.1
  have hb := C.2.1
  have hl := lv_entry ([.ref (gb g + x0), .int x1, .int x2, .int x3]) (n := 4) (Nat.le_of_ble_eq_true rfl)
  rw [lg_entry_eq]
  generalize (lg_sl ([.ref (gb g + x0), .int x1, .int x2, .int x3]) ++ List.replicate (4 - (lg_sl ([.ref (gb g + x0), .int x1, .int x2, .int x3])).length) Slot.unset).toArray = ls at hl ⊢
  have hl : lv_has ls 4 [(0, .ref (gb g + x0)), (1, .int x1), (2, .int x2), (3, .int x3)] := hl
  generalize hH : s.heap = H at S ⊢
  generalize hlc : ([] : List Loc) = locs at S ⊢
  rw [f_X12_openMinutes] at h
  refine lv_aload_n hx hb dX12_openMinutes_0 rfl (lv_at hl 0 rfl) ?_
  refine lv_iconst (v := (0 : Int32)) hx hb dX12_openMinutes_1 (by decide) ?_
  obtain ⟨σ1, hs1, h⟩ := sq_el h
  refine x_putI C S KX12 hx0 0 (by decide) rfl rfl rfl ⟨rfl, rfl⟩ fl_RX12_3 dX12_openMinutes_2 hs1 (fun H locs S => ?_)
  refine lv_aload_n hx hb dX12_openMinutes_5 rfl (lv_at hl 0 rfl) ?_
  refine lv_iload_n hx hb dX12_openMinutes_6 rfl (lv_at hl 1 rfl) ?_
  obtain ⟨a2, σ2, hc2, h⟩ := bd_el h
  refine x_callVI C S KX12 hx0 (ok_X12_noRoad (L := L) hc2 hSh hx0) ⟨cd_X12_noRoad, ni_RX12, ml_RX12_257, in_X12_noRoad, sl_X12_noRoad⟩ ⟨by decide, by decide⟩ rfl ⟨by decide, by decide⟩ hl.1 rfl (Nat.le_of_ble_eq_true rfl) ⟨by decide, by decide⟩ dX12_openMinutes_7 (fun H locs S => ?_)
  refine lv_if_ne (tgt := 48) hx hb dX12_openMinutes_10 (by decide) (fun c3 => ?_) (fun c3 => ?_)
  · have h := it_n c3 h
    refine lv_iconst (v := (0 : Int32)) hx hb dX12_openMinutes_48 (by decide) ?_
    exact x_iret C S hr h dX12_openMinutes_49
  · have h := it_p c3 h
    refine lv_aload_n hx hb dX12_openMinutes_13 rfl (lv_at hl 0 rfl) ?_
    refine lv_iload_n hx hb dX12_openMinutes_14 rfl (lv_at hl 2 rfl) ?_
    refine lv_iconst (v := (0 : Int32)) hx hb dX12_openMinutes_15 (by decide) ?_
    refine lv_sipush (v := (1439 : Int32)) hx hb dX12_openMinutes_16 (by decide) ?_
    obtain ⟨a4, σ4, hc4, h⟩ := bd_el h
    refine x_callSI C S (ok_X12_in (L := L) hc4 hSh) ⟨cd_X12_in, ni_RX12, ml_RX12_71, st_X12_in⟩ ⟨by decide, by decide⟩ rfl ⟨by decide, by decide⟩ hl.1 rfl (Nat.le_of_ble_eq_true rfl) ⟨by decide, by decide⟩ dX12_openMinutes_19 (fun H locs S => ?_)
    refine lv_if_eq (tgt := 36) hx hb dX12_openMinutes_22 (by decide) (fun c5 => ?_) (fun c5 => ?_)
    · have h := it_p c5 h
      refine lv_iconst (v := (1 : Int32)) hx hb dX12_openMinutes_36 (by decide) ?_
      refine lv_goto (tgt := 41) hx hb dX12_openMinutes_37 (by decide) ?_
      refine lv_iconst (v := (2 : Int32)) hx hb dX12_openMinutes_41 (by decide) ?_
      obtain ⟨a6, σ6, hc6, h⟩ := bd_el h
      refine x_callVI C S KX12 hx0 (ok_X12_throwsIf (L := L) hc6 hSh hx0) ⟨cd_X12_throwsIf, ni_RX12, ml_RX12_185, in_X12_throwsIf, sl_X12_throwsIf⟩ ⟨by decide, by decide⟩ rfl ⟨by decide, by decide⟩ hl.1 rfl (Nat.le_of_ble_eq_true rfl) ⟨by decide, by decide⟩ dX12_openMinutes_42 (fun H locs S => ?_)
      refine lv_if_eq (tgt := 50) hx hb dX12_openMinutes_45 (by decide) (fun c7 => ?_) (fun c7 => ?_)
      · have h := it_p c7 h
        refine lv_aload_n hx hb dX12_openMinutes_50 rfl (lv_at hl 0 rfl) ?_
        refine lv_iload_n hx hb dX12_openMinutes_51 rfl (lv_at hl 1 rfl) ?_
        obtain ⟨a8, σ8, hc8, h⟩ := bd_el h
        refine x_callVV C S KX12 hx0 (ok_X12_paints (L := L) hc8 hSh hx0) ⟨cd_X12_paints, ni_RX12, ml_RX12_314, in_X12_paints, sl_X12_paints⟩ ⟨by decide, by decide⟩ rfl ⟨by decide, by decide⟩ hl.1 rfl (Nat.le_of_ble_eq_true rfl) ⟨by decide, by decide⟩ dX12_openMinutes_52 (fun H locs S => ?_)
        refine lv_iload_n hx hb dX12_openMinutes_55 rfl (lv_at hl 3 rfl) ?_
        refine lv_iload_n hx hb dX12_openMinutes_56 rfl (lv_at hl 2 rfl) ?_
        refine lv_isub hx hb dX12_openMinutes_57 ?_
        refine lv_iconst (v := (1 : Int32)) hx hb dX12_openMinutes_58 (by decide) ?_
        refine lv_iadd hx hb dX12_openMinutes_59 ?_
        refine lv_aload_n hx hb dX12_openMinutes_60 rfl (lv_at hl 0 rfl) ?_
        refine lv_iload_n hx hb dX12_openMinutes_61 rfl (lv_at hl 2 rfl) ?_
        refine lv_iload_n hx hb dX12_openMinutes_62 rfl (lv_at hl 3 rfl) ?_
        obtain ⟨a9, σ9, hc9, h⟩ := bd_el h
        refine x_callVI C S KX12 hx0 (ok_X12_paintedIn (L := L) hc9 hSh hx0) ⟨cd_X12_paintedIn, ni_RX12, ml_RX12_318, in_X12_paintedIn, sl_X12_paintedIn⟩ ⟨by decide, by decide⟩ rfl ⟨by decide, by decide⟩ hl.1 rfl (Nat.le_of_ble_eq_true rfl) ⟨by decide, by decide⟩ dX12_openMinutes_63 (fun H locs S => ?_)
        refine lv_isub hx hb dX12_openMinutes_66 ?_
        exact x_iret C S hr h dX12_openMinutes_67
      · have h := it_n c7 h
        refine lv_iconst (v := (0 : Int32)) hx hb dX12_openMinutes_48 (by decide) ?_
        exact x_iret C S hr h dX12_openMinutes_49
    · have h := it_n c5 h
      refine lv_iload_n hx hb dX12_openMinutes_25 rfl (lv_at hl 3 rfl) ?_
      refine lv_iload_n hx hb dX12_openMinutes_26 rfl (lv_at hl 2 rfl) ?_
      refine lv_sipush (v := (1439 : Int32)) hx hb dX12_openMinutes_27 (by decide) ?_
      obtain ⟨a10, σ10, hc10, h⟩ := bd_el h
      refine x_callSI C S (ok_X12_in (L := L) hc10 hSh) ⟨cd_X12_in, ni_RX12, ml_RX12_71, st_X12_in⟩ ⟨by decide, by decide⟩ rfl ⟨by decide, by decide⟩ hl.1 rfl (Nat.le_of_ble_eq_true rfl) ⟨by decide, by decide⟩ dX12_openMinutes_30 (fun H locs S => ?_)
      refine lv_if_ne (tgt := 40) hx hb dX12_openMinutes_33 (by decide) (fun c11 => ?_) (fun c11 => ?_)
      · have h := it_n c11 h
        refine lv_iconst (v := (0 : Int32)) hx hb dX12_openMinutes_40 (by decide) ?_
        refine lv_iconst (v := (2 : Int32)) hx hb dX12_openMinutes_41 (by decide) ?_
        obtain ⟨a12, σ12, hc12, h⟩ := bd_el h
        refine x_callVI C S KX12 hx0 (ok_X12_throwsIf (L := L) hc12 hSh hx0) ⟨cd_X12_throwsIf, ni_RX12, ml_RX12_185, in_X12_throwsIf, sl_X12_throwsIf⟩ ⟨by decide, by decide⟩ rfl ⟨by decide, by decide⟩ hl.1 rfl (Nat.le_of_ble_eq_true rfl) ⟨by decide, by decide⟩ dX12_openMinutes_42 (fun H locs S => ?_)
        refine lv_if_eq (tgt := 50) hx hb dX12_openMinutes_45 (by decide) (fun c13 => ?_) (fun c13 => ?_)
        · have h := it_p c13 h
          refine lv_aload_n hx hb dX12_openMinutes_50 rfl (lv_at hl 0 rfl) ?_
          refine lv_iload_n hx hb dX12_openMinutes_51 rfl (lv_at hl 1 rfl) ?_
          obtain ⟨a14, σ14, hc14, h⟩ := bd_el h
          refine x_callVV C S KX12 hx0 (ok_X12_paints (L := L) hc14 hSh hx0) ⟨cd_X12_paints, ni_RX12, ml_RX12_314, in_X12_paints, sl_X12_paints⟩ ⟨by decide, by decide⟩ rfl ⟨by decide, by decide⟩ hl.1 rfl (Nat.le_of_ble_eq_true rfl) ⟨by decide, by decide⟩ dX12_openMinutes_52 (fun H locs S => ?_)
          refine lv_iload_n hx hb dX12_openMinutes_55 rfl (lv_at hl 3 rfl) ?_
          refine lv_iload_n hx hb dX12_openMinutes_56 rfl (lv_at hl 2 rfl) ?_
          refine lv_isub hx hb dX12_openMinutes_57 ?_
          refine lv_iconst (v := (1 : Int32)) hx hb dX12_openMinutes_58 (by decide) ?_
          refine lv_iadd hx hb dX12_openMinutes_59 ?_
          refine lv_aload_n hx hb dX12_openMinutes_60 rfl (lv_at hl 0 rfl) ?_
          refine lv_iload_n hx hb dX12_openMinutes_61 rfl (lv_at hl 2 rfl) ?_
          refine lv_iload_n hx hb dX12_openMinutes_62 rfl (lv_at hl 3 rfl) ?_
          obtain ⟨a15, σ15, hc15, h⟩ := bd_el h
          refine x_callVI C S KX12 hx0 (ok_X12_paintedIn (L := L) hc15 hSh hx0) ⟨cd_X12_paintedIn, ni_RX12, ml_RX12_318, in_X12_paintedIn, sl_X12_paintedIn⟩ ⟨by decide, by decide⟩ rfl ⟨by decide, by decide⟩ hl.1 rfl (Nat.le_of_ble_eq_true rfl) ⟨by decide, by decide⟩ dX12_openMinutes_63 (fun H locs S => ?_)
          refine lv_isub hx hb dX12_openMinutes_66 ?_
          exact x_iret C S hr h dX12_openMinutes_67
        · have h := it_n c13 h
          refine lv_iconst (v := (0 : Int32)) hx hb dX12_openMinutes_48 (by decide) ?_
          exact x_iret C S hr h dX12_openMinutes_49
      · have h := it_p c11 h
        refine lv_iconst (v := (1 : Int32)) hx hb dX12_openMinutes_36 (by decide) ?_
        refine lv_goto (tgt := 41) hx hb dX12_openMinutes_37 (by decide) ?_
        refine lv_iconst (v := (2 : Int32)) hx hb dX12_openMinutes_41 (by decide) ?_
        obtain ⟨a16, σ16, hc16, h⟩ := bd_el h
        refine x_callVI C S KX12 hx0 (ok_X12_throwsIf (L := L) hc16 hSh hx0) ⟨cd_X12_throwsIf, ni_RX12, ml_RX12_185, in_X12_throwsIf, sl_X12_throwsIf⟩ ⟨by decide, by decide⟩ rfl ⟨by decide, by decide⟩ hl.1 rfl (Nat.le_of_ble_eq_true rfl) ⟨by decide, by decide⟩ dX12_openMinutes_42 (fun H locs S => ?_)
        refine lv_if_eq (tgt := 50) hx hb dX12_openMinutes_45 (by decide) (fun c17 => ?_) (fun c17 => ?_)
        · have h := it_p c17 h
          refine lv_aload_n hx hb dX12_openMinutes_50 rfl (lv_at hl 0 rfl) ?_
          refine lv_iload_n hx hb dX12_openMinutes_51 rfl (lv_at hl 1 rfl) ?_
          obtain ⟨a18, σ18, hc18, h⟩ := bd_el h
          refine x_callVV C S KX12 hx0 (ok_X12_paints (L := L) hc18 hSh hx0) ⟨cd_X12_paints, ni_RX12, ml_RX12_314, in_X12_paints, sl_X12_paints⟩ ⟨by decide, by decide⟩ rfl ⟨by decide, by decide⟩ hl.1 rfl (Nat.le_of_ble_eq_true rfl) ⟨by decide, by decide⟩ dX12_openMinutes_52 (fun H locs S => ?_)
          refine lv_iload_n hx hb dX12_openMinutes_55 rfl (lv_at hl 3 rfl) ?_
          refine lv_iload_n hx hb dX12_openMinutes_56 rfl (lv_at hl 2 rfl) ?_
          refine lv_isub hx hb dX12_openMinutes_57 ?_
          refine lv_iconst (v := (1 : Int32)) hx hb dX12_openMinutes_58 (by decide) ?_
          refine lv_iadd hx hb dX12_openMinutes_59 ?_
          refine lv_aload_n hx hb dX12_openMinutes_60 rfl (lv_at hl 0 rfl) ?_
          refine lv_iload_n hx hb dX12_openMinutes_61 rfl (lv_at hl 2 rfl) ?_
          refine lv_iload_n hx hb dX12_openMinutes_62 rfl (lv_at hl 3 rfl) ?_
          obtain ⟨a19, σ19, hc19, h⟩ := bd_el h
          refine x_callVI C S KX12 hx0 (ok_X12_paintedIn (L := L) hc19 hSh hx0) ⟨cd_X12_paintedIn, ni_RX12, ml_RX12_318, in_X12_paintedIn, sl_X12_paintedIn⟩ ⟨by decide, by decide⟩ rfl ⟨by decide, by decide⟩ hl.1 rfl (Nat.le_of_ble_eq_true rfl) ⟨by decide, by decide⟩ dX12_openMinutes_63 (fun H locs S => ?_)
          refine lv_isub hx hb dX12_openMinutes_66 ?_
          exact x_iret C S hr h dX12_openMinutes_67
        · have h := it_n c17 h
          refine lv_iconst (v := (0 : Int32)) hx hb dX12_openMinutes_48 (by decide) ?_
          exact x_iret C S hr h dX12_openMinutes_49
theorem dX12_sharedMinutes_0 : decode cX12_sharedMinutes 0 = .ok (.aload_n 0, 1) := by decide +kernel
theorem dX12_sharedMinutes_1 : decode cX12_sharedMinutes 1 = .ok (.iconst 0, 1) := by decide +kernel
theorem dX12_sharedMinutes_2 : decode cX12_sharedMinutes 2 = .ok (.putfield 3, 3) := by decide +kernel
theorem dX12_sharedMinutes_5 : decode cX12_sharedMinutes 5 = .ok (.aload_n 0, 1) := by decide +kernel
theorem dX12_sharedMinutes_6 : decode cX12_sharedMinutes 6 = .ok (.iload_n 1, 1) := by decide +kernel
theorem dX12_sharedMinutes_7 : decode cX12_sharedMinutes 7 = .ok (.invokevirtual 257, 3) := by decide +kernel
theorem dX12_sharedMinutes_10 : decode cX12_sharedMinutes 10 = .ok (.ifCond .ne 11, 3) := by decide +kernel
theorem dX12_sharedMinutes_13 : decode cX12_sharedMinutes 13 = .ok (.aload_n 0, 1) := by decide +kernel
theorem dX12_sharedMinutes_14 : decode cX12_sharedMinutes 14 = .ok (.iload_n 2, 1) := by decide +kernel
theorem dX12_sharedMinutes_15 : decode cX12_sharedMinutes 15 = .ok (.invokevirtual 257, 3) := by decide +kernel
theorem dX12_sharedMinutes_18 : decode cX12_sharedMinutes 18 = .ok (.ifCond .eq 5, 3) := by decide +kernel
theorem dX12_sharedMinutes_21 : decode cX12_sharedMinutes 21 = .ok (.iconst 0, 1) := by decide +kernel
theorem dX12_sharedMinutes_22 : decode cX12_sharedMinutes 22 = .ok (.ireturn, 1) := by decide +kernel
theorem dX12_sharedMinutes_23 : decode cX12_sharedMinutes 23 = .ok (.aload_n 0, 1) := by decide +kernel
theorem dX12_sharedMinutes_24 : decode cX12_sharedMinutes 24 = .ok (.iload_n 2, 1) := by decide +kernel
theorem dX12_sharedMinutes_25 : decode cX12_sharedMinutes 25 = .ok (.invokevirtual 314, 3) := by decide +kernel
theorem dX12_sharedMinutes_28 : decode cX12_sharedMinutes 28 = .ok (.iconst 0, 1) := by decide +kernel
theorem dX12_sharedMinutes_29 : decode cX12_sharedMinutes 29 = .ok (.istore_n 3, 1) := by decide +kernel
theorem dX12_sharedMinutes_30 : decode cX12_sharedMinutes 30 = .ok (.iload_n 3, 1) := by decide +kernel
theorem dX12_sharedMinutes_31 : decode cX12_sharedMinutes 31 = .ok (.sipush 1440, 3) := by decide +kernel
theorem dX12_sharedMinutes_34 : decode cX12_sharedMinutes 34 = .ok (.if_icmp .ge 21, 3) := by decide +kernel
theorem dX12_sharedMinutes_37 : decode cX12_sharedMinutes 37 = .ok (.aload_n 0, 1) := by decide +kernel
theorem dX12_sharedMinutes_38 : decode cX12_sharedMinutes 38 = .ok (.getfield 107, 3) := by decide +kernel
theorem dX12_sharedMinutes_41 : decode cX12_sharedMinutes 41 = .ok (.iload_n 3, 1) := by decide +kernel
theorem dX12_sharedMinutes_42 : decode cX12_sharedMinutes 42 = .ok (.aload_n 0, 1) := by decide +kernel
theorem dX12_sharedMinutes_43 : decode cX12_sharedMinutes 43 = .ok (.getfield 103, 3) := by decide +kernel
theorem dX12_sharedMinutes_46 : decode cX12_sharedMinutes 46 = .ok (.iload_n 3, 1) := by decide +kernel
theorem dX12_sharedMinutes_47 : decode cX12_sharedMinutes 47 = .ok (.baload, 1) := by decide +kernel
theorem dX12_sharedMinutes_48 : decode cX12_sharedMinutes 48 = .ok (.bastore, 1) := by decide +kernel
theorem dX12_sharedMinutes_49 : decode cX12_sharedMinutes 49 = .ok (.iinc 3 1, 3) := by decide +kernel
theorem dX12_sharedMinutes_52 : decode cX12_sharedMinutes 52 = .ok (.goto (-22), 3) := by decide +kernel
theorem dX12_sharedMinutes_55 : decode cX12_sharedMinutes 55 = .ok (.aload_n 0, 1) := by decide +kernel
theorem dX12_sharedMinutes_56 : decode cX12_sharedMinutes 56 = .ok (.iload_n 1, 1) := by decide +kernel
theorem dX12_sharedMinutes_57 : decode cX12_sharedMinutes 57 = .ok (.invokevirtual 314, 3) := by decide +kernel
theorem dX12_sharedMinutes_60 : decode cX12_sharedMinutes 60 = .ok (.iconst 0, 1) := by decide +kernel
theorem dX12_sharedMinutes_61 : decode cX12_sharedMinutes 61 = .ok (.istore_n 3, 1) := by decide +kernel
theorem dX12_sharedMinutes_62 : decode cX12_sharedMinutes 62 = .ok (.iconst 0, 1) := by decide +kernel
theorem dX12_sharedMinutes_63 : decode cX12_sharedMinutes 63 = .ok (.istore 4, 2) := by decide +kernel
theorem dX12_sharedMinutes_65 : decode cX12_sharedMinutes 65 = .ok (.iload 4, 2) := by decide +kernel
theorem dX12_sharedMinutes_67 : decode cX12_sharedMinutes 67 = .ok (.sipush 1440, 3) := by decide +kernel
theorem dX12_sharedMinutes_70 : decode cX12_sharedMinutes 70 = .ok (.if_icmp .ge 37, 3) := by decide +kernel
theorem dX12_sharedMinutes_73 : decode cX12_sharedMinutes 73 = .ok (.iload_n 3, 1) := by decide +kernel
theorem dX12_sharedMinutes_74 : decode cX12_sharedMinutes 74 = .ok (.aload_n 0, 1) := by decide +kernel
theorem dX12_sharedMinutes_75 : decode cX12_sharedMinutes 75 = .ok (.getfield 103, 3) := by decide +kernel
theorem dX12_sharedMinutes_78 : decode cX12_sharedMinutes 78 = .ok (.iload 4, 2) := by decide +kernel
theorem dX12_sharedMinutes_80 : decode cX12_sharedMinutes 80 = .ok (.baload, 1) := by decide +kernel
theorem dX12_sharedMinutes_81 : decode cX12_sharedMinutes 81 = .ok (.ifCond .eq 17, 3) := by decide +kernel
theorem dX12_sharedMinutes_84 : decode cX12_sharedMinutes 84 = .ok (.aload_n 0, 1) := by decide +kernel
theorem dX12_sharedMinutes_85 : decode cX12_sharedMinutes 85 = .ok (.getfield 107, 3) := by decide +kernel
theorem dX12_sharedMinutes_88 : decode cX12_sharedMinutes 88 = .ok (.iload 4, 2) := by decide +kernel
theorem dX12_sharedMinutes_90 : decode cX12_sharedMinutes 90 = .ok (.baload, 1) := by decide +kernel
theorem dX12_sharedMinutes_91 : decode cX12_sharedMinutes 91 = .ok (.ifCond .eq 7, 3) := by decide +kernel
theorem dX12_sharedMinutes_94 : decode cX12_sharedMinutes 94 = .ok (.iconst 1, 1) := by decide +kernel
theorem dX12_sharedMinutes_95 : decode cX12_sharedMinutes 95 = .ok (.goto 4, 3) := by decide +kernel
theorem dX12_sharedMinutes_98 : decode cX12_sharedMinutes 98 = .ok (.iconst 0, 1) := by decide +kernel
theorem dX12_sharedMinutes_99 : decode cX12_sharedMinutes 99 = .ok (.iadd, 1) := by decide +kernel
theorem dX12_sharedMinutes_100 : decode cX12_sharedMinutes 100 = .ok (.istore_n 3, 1) := by decide +kernel
theorem dX12_sharedMinutes_101 : decode cX12_sharedMinutes 101 = .ok (.iinc 4 1, 3) := by decide +kernel
theorem dX12_sharedMinutes_104 : decode cX12_sharedMinutes 104 = .ok (.goto (-39), 3) := by decide +kernel
theorem dX12_sharedMinutes_107 : decode cX12_sharedMinutes 107 = .ok (.iload_n 3, 1) := by decide +kernel
theorem dX12_sharedMinutes_108 : decode cX12_sharedMinutes 108 = .ok (.ireturn, 1) := by decide +kernel
def f_X12_sharedMinutes_65 (N : Nat) (R : Nat → Nat → Nat) : Nat → SI → Nat → Int32 → Int32 → Option (Int32 × SI)
  | 0, _, _, _, _ => none
  | n + 1, σ, x0, x3, x4 => if (1440 : Int32) ≤ x4 then (some (x3, σ)) else (ck x4 1440 (if (σ (R x0 17) x4.toNatClampNeg) = 0 then (f_X12_sharedMinutes_65 N R n σ x0 (x3 + (0 : Int32)) (x4 + 1)) else (ck x4 1440 (if (σ (R x0 18) x4.toNatClampNeg) = 0 then (f_X12_sharedMinutes_65 N R n σ x0 (x3 + (0 : Int32)) (x4 + 1)) else (f_X12_sharedMinutes_65 N R n σ x0 (x3 + (1 : Int32)) (x4 + 1))))))
def f_X12_sharedMinutes_30 (N : Nat) (R : Nat → Nat → Nat) : Nat → SI → Nat → Int32 → Int32 → Option (Int32 × SI)
  | 0, _, _, _, _ => none
  | n + 1, σ, x0, x1, x3 => if (1440 : Int32) ≤ x3 then (bd (f_X12_paints N R σ x0 x1) (fun _ σ8 => f_X12_sharedMinutes_65 N R N σ8 x0 (0 : Int32) (0 : Int32))) else (ck x3 1440 (ck x3 1440 (sq (up σ (R x0 18) x3.toNatClampNeg (vp_nar .boolean (σ (R x0 17) x3.toNatClampNeg))) (fun σ20 => f_X12_sharedMinutes_30 N R n σ20 x0 x1 (x3 + 1)))))
def f_X12_sharedMinutes (N : Nat) (R : Nat → Nat → Nat) (σ : SI) (x0 : Nat) (x1 : Int32) (x2 : Int32) : Option (Int32 × SI) := sq (up σ x0 0 (0 : Int32)) (fun σ1 => bd (f_X12_noRoad N R σ1 x0 x1) (fun a2 σ2 => if a2 = 0 then (bd (f_X12_noRoad N R σ2 x0 x2) (fun a4 σ4 => if a4 = 0 then (bd (f_X12_paints N R σ4 x0 x2) (fun _ σ6 => f_X12_sharedMinutes_30 N R N σ6 x0 x1 (0 : Int32))) else (some ((0 : Int32), σ4)))) else (some ((0 : Int32), σ2))))
set_option maxHeartbeats 4000000 in
set_option maxRecDepth 100000 in
theorem w_X12_sharedMinutes_65 {l : Launch} {g : GL} {p : Program} {e : Jvm.Env} {s : State} {m : MethodId} {args : Array Value} {below : List Frame} {meth : Method} {c : Code} {R : Nat → Nat → Nat} {L : Nat → Nat → Int64} {r : (Int32 × SI)} {N : Nat} (C : Cx l g p s m meth c cX12_sharedMinutes 5 RX12) (hr : meth.sig.returnType = (some .int)) (hSh : ShR R) : ∀ (n : Nat) (σ : SI) (x0 : Nat) (x3 : Int32) (x4 : Int32), f_X12_sharedMinutes_65 N R n σ x0 x3 x4 = some r → Ok 194 x0 12 → ∀ (H : Heap) (locs : List Loc) (ls : Array Slot), S2 g s σ R L H locs → lv_has ls 5 [(0, .ref (gb g + x0)), (3, .int x3), (4, .int x4)] → W p l e (rmd 5 0 0) s m args below meth c H locs 0 0 (MQ below (Qg g 194 (PI R L r)) args s 0 0 (gA g)) (F0 m 65 ls []) := by
  have hx := C.1
  have hb := C.2.1
  intro n
  induction n with
  | zero =>
    intro σ x0 x3 x4 h
    cases (show (none : Option (Int32 × SI)) = some r from h)
  | succ n ih =>
    intro σ x0 x3 x4 h hx0 H locs ls S hl
    rw [f_X12_sharedMinutes_65] at h
    refine lv_iload hx hb dX12_sharedMinutes_65 (lv_at hl 2 rfl) ?_
    refine lv_sipush (v := (1440 : Int32)) hx hb dX12_sharedMinutes_67 (by decide) ?_
    refine lv_icmp_ge (tgt := 107) hx hb dX12_sharedMinutes_70 (by decide) (fun c9 => ?_) (fun c9 => ?_)
    · have h := it_p c9 h
      refine lv_iload_n hx hb dX12_sharedMinutes_107 rfl (lv_at hl 1 rfl) ?_
      exact x_iret C S hr h dX12_sharedMinutes_108
    · have h := it_n c9 h
      refine lv_iload_n hx hb dX12_sharedMinutes_73 rfl (lv_at hl 1 rfl) ?_
      refine lv_aload_n hx hb dX12_sharedMinutes_74 rfl (lv_at hl 0 rfl) ?_
      have hR10 : Ok 194 (R x0 17) 31440 := hSh x0 12 17 31440 hx0.1 rfl
      refine x_getR C S KX12 hx0 17 (by decide) rfl rfl fl_RX12_103 hR10 dX12_sharedMinutes_75 ?_
      refine lv_iload hx hb dX12_sharedMinutes_78 (lv_at hl 2 rfl) ?_
      obtain ⟨hi11, h⟩ := ck_el h
      refine x_zald (len := 1440) C S (by decide) hR10 hi11 dX12_sharedMinutes_80 ?_
      refine lv_if_eq (tgt := 98) hx hb dX12_sharedMinutes_81 (by decide) (fun c12 => ?_) (fun c12 => ?_)
      · have h := it_p c12 h
        refine lv_iconst (v := (0 : Int32)) hx hb dX12_sharedMinutes_98 (by decide) ?_
        refine lv_iadd hx hb dX12_sharedMinutes_99 ?_
        refine lv_istore_n (lv' := [(3, .int (x3 + (0 : Int32))), (0, .ref (gb g + x0)), (4, .int x4)]) hx hb dX12_sharedMinutes_100 rfl hl (by decide) rfl (fun ls hl => ?_)
        refine lv_iinc (v := x4 + 1) (lv' := [(4, .int (x4 + 1)), (3, .int (x3 + (0 : Int32))), (0, .ref (gb g + x0))]) hx hb dX12_sharedMinutes_101 hl (k := 2) rfl rfl (by decide) rfl (fun ls hl => ?_)
        refine lv_goto (tgt := 65) hx hb dX12_sharedMinutes_104 (by decide) ?_
        exact ih σ x0 (x3 + (0 : Int32)) (x4 + 1) h hx0 H locs ls S (lv_sub hl [2, 1, 0] rfl)
      · have h := it_n c12 h
        refine lv_aload_n hx hb dX12_sharedMinutes_84 rfl (lv_at hl 0 rfl) ?_
        have hR13 : Ok 194 (R x0 18) 31440 := hSh x0 12 18 31440 hx0.1 rfl
        refine x_getR C S KX12 hx0 18 (by decide) rfl rfl fl_RX12_107 hR13 dX12_sharedMinutes_85 ?_
        refine lv_iload hx hb dX12_sharedMinutes_88 (lv_at hl 2 rfl) ?_
        obtain ⟨hi14, h⟩ := ck_el h
        refine x_zald (len := 1440) C S (by decide) hR13 hi14 dX12_sharedMinutes_90 ?_
        refine lv_if_eq (tgt := 98) hx hb dX12_sharedMinutes_91 (by decide) (fun c15 => ?_) (fun c15 => ?_)
        · have h := it_p c15 h
          refine lv_iconst (v := (0 : Int32)) hx hb dX12_sharedMinutes_98 (by decide) ?_
          refine lv_iadd hx hb dX12_sharedMinutes_99 ?_
          refine lv_istore_n (lv' := [(3, .int (x3 + (0 : Int32))), (0, .ref (gb g + x0)), (4, .int x4)]) hx hb dX12_sharedMinutes_100 rfl hl (by decide) rfl (fun ls hl => ?_)
          refine lv_iinc (v := x4 + 1) (lv' := [(4, .int (x4 + 1)), (3, .int (x3 + (0 : Int32))), (0, .ref (gb g + x0))]) hx hb dX12_sharedMinutes_101 hl (k := 2) rfl rfl (by decide) rfl (fun ls hl => ?_)
          refine lv_goto (tgt := 65) hx hb dX12_sharedMinutes_104 (by decide) ?_
          exact ih σ x0 (x3 + (0 : Int32)) (x4 + 1) h hx0 H locs ls S (lv_sub hl [2, 1, 0] rfl)
        · have h := it_n c15 h
          refine lv_iconst (v := (1 : Int32)) hx hb dX12_sharedMinutes_94 (by decide) ?_
          refine lv_goto (tgt := 99) hx hb dX12_sharedMinutes_95 (by decide) ?_
          refine lv_iadd hx hb dX12_sharedMinutes_99 ?_
          refine lv_istore_n (lv' := [(3, .int (x3 + (1 : Int32))), (0, .ref (gb g + x0)), (4, .int x4)]) hx hb dX12_sharedMinutes_100 rfl hl (by decide) rfl (fun ls hl => ?_)
          refine lv_iinc (v := x4 + 1) (lv' := [(4, .int (x4 + 1)), (3, .int (x3 + (1 : Int32))), (0, .ref (gb g + x0))]) hx hb dX12_sharedMinutes_101 hl (k := 2) rfl rfl (by decide) rfl (fun ls hl => ?_)
          refine lv_goto (tgt := 65) hx hb dX12_sharedMinutes_104 (by decide) ?_
          exact ih σ x0 (x3 + (1 : Int32)) (x4 + 1) h hx0 H locs ls S (lv_sub hl [2, 1, 0] rfl)
set_option maxHeartbeats 4000000 in
set_option maxRecDepth 100000 in
theorem w_X12_sharedMinutes_30 {l : Launch} {g : GL} {p : Program} {e : Jvm.Env} {s : State} {m : MethodId} {args : Array Value} {below : List Frame} {meth : Method} {c : Code} {R : Nat → Nat → Nat} {L : Nat → Nat → Int64} {r : (Int32 × SI)} {N : Nat} (C : Cx l g p s m meth c cX12_sharedMinutes 5 RX12) (hr : meth.sig.returnType = (some .int)) (hSh : ShR R) : ∀ (n : Nat) (σ : SI) (x0 : Nat) (x1 : Int32) (x3 : Int32), f_X12_sharedMinutes_30 N R n σ x0 x1 x3 = some r → Ok 194 x0 12 → ∀ (H : Heap) (locs : List Loc) (ls : Array Slot), S2 g s σ R L H locs → lv_has ls 5 [(0, .ref (gb g + x0)), (1, .int x1), (3, .int x3)] → W p l e (rmd 5 0 0) s m args below meth c H locs 0 0 (MQ below (Qg g 194 (PI R L r)) args s 0 0 (gA g)) (F0 m 30 ls []) := by
  have hx := C.1
  have hb := C.2.1
  intro n
  induction n with
  | zero =>
    intro σ x0 x1 x3 h
    cases (show (none : Option (Int32 × SI)) = some r from h)
  | succ n ih =>
    intro σ x0 x1 x3 h hx0 H locs ls S hl
    rw [f_X12_sharedMinutes_30] at h
    refine lv_iload_n hx hb dX12_sharedMinutes_30 rfl (lv_at hl 2 rfl) ?_
    refine lv_sipush (v := (1440 : Int32)) hx hb dX12_sharedMinutes_31 (by decide) ?_
    refine lv_icmp_ge (tgt := 55) hx hb dX12_sharedMinutes_34 (by decide) (fun c7 => ?_) (fun c7 => ?_)
    · have h := it_p c7 h
      refine lv_aload_n hx hb dX12_sharedMinutes_55 rfl (lv_at hl 0 rfl) ?_
      refine lv_iload_n hx hb dX12_sharedMinutes_56 rfl (lv_at hl 1 rfl) ?_
      obtain ⟨a8, σ8, hc8, h⟩ := bd_el h
      refine x_callVV C S KX12 hx0 (ok_X12_paints (L := L) hc8 hSh hx0) ⟨cd_X12_paints, ni_RX12, ml_RX12_314, in_X12_paints, sl_X12_paints⟩ ⟨by decide, by decide⟩ rfl ⟨by decide, by decide⟩ hl.1 rfl (Nat.le_of_ble_eq_true rfl) ⟨by decide, by decide⟩ dX12_sharedMinutes_57 (fun H locs S => ?_)
      refine lv_iconst (v := (0 : Int32)) hx hb dX12_sharedMinutes_60 (by decide) ?_
      refine lv_istore_n (lv' := [(3, .int (0 : Int32)), (0, .ref (gb g + x0)), (1, .int x1)]) hx hb dX12_sharedMinutes_61 rfl hl (by decide) rfl (fun ls hl => ?_)
      refine lv_iconst (v := (0 : Int32)) hx hb dX12_sharedMinutes_62 (by decide) ?_
      refine lv_istore (lv' := [(4, .int (0 : Int32)), (3, .int (0 : Int32)), (0, .ref (gb g + x0)), (1, .int x1)]) hx hb dX12_sharedMinutes_63 hl (by decide) rfl (fun ls hl => ?_)
      exact w_X12_sharedMinutes_65 C hr hSh N σ8 x0 (0 : Int32) (0 : Int32) h hx0 H locs ls S (lv_sub hl [2, 1, 0] rfl)
    · have h := it_n c7 h
      refine lv_aload_n hx hb dX12_sharedMinutes_37 rfl (lv_at hl 0 rfl) ?_
      have hR16 : Ok 194 (R x0 18) 31440 := hSh x0 12 18 31440 hx0.1 rfl
      refine x_getR C S KX12 hx0 18 (by decide) rfl rfl fl_RX12_107 hR16 dX12_sharedMinutes_38 ?_
      refine lv_iload_n hx hb dX12_sharedMinutes_41 rfl (lv_at hl 2 rfl) ?_
      refine lv_aload_n hx hb dX12_sharedMinutes_42 rfl (lv_at hl 0 rfl) ?_
      have hR17 : Ok 194 (R x0 17) 31440 := hSh x0 12 17 31440 hx0.1 rfl
      refine x_getR C S KX12 hx0 17 (by decide) rfl rfl fl_RX12_103 hR17 dX12_sharedMinutes_43 ?_
      refine lv_iload_n hx hb dX12_sharedMinutes_46 rfl (lv_at hl 2 rfl) ?_
      obtain ⟨hi18, h⟩ := ck_el h
      refine x_zald (len := 1440) C S (by decide) hR17 hi18 dX12_sharedMinutes_47 ?_
      obtain ⟨hi19, h⟩ := ck_el h
      obtain ⟨σ20, hs20, h⟩ := sq_el h
      refine x_zast (len := 1440) C S (by decide) hR16 hi19 dX12_sharedMinutes_48 hs20 (fun H locs S => ?_)
      refine lv_iinc (v := x3 + 1) (lv' := [(3, .int (x3 + 1)), (0, .ref (gb g + x0)), (1, .int x1)]) hx hb dX12_sharedMinutes_49 hl (k := 2) rfl rfl (by decide) rfl (fun ls hl => ?_)
      refine lv_goto (tgt := 30) hx hb dX12_sharedMinutes_52 (by decide) ?_
      exact ih σ20 x0 x1 (x3 + 1) h hx0 H locs ls S (lv_sub hl [1, 2, 0] rfl)
set_option maxHeartbeats 4000000 in
set_option maxRecDepth 100000 in
theorem ok_X12_sharedMinutes {l : Launch} {g : GL} {R : Nat → Nat → Nat} {L : Nat → Nat → Int64} {N : Nat} {σ : SI} {x0 : Nat} {x1 : Int32} {x2 : Int32} {r : (Int32 × SI)} (h : f_X12_sharedMinutes N R σ x0 x1 x2 = some r) (hSh : ShR R) (hx0 : Ok 194 x0 12) : Ct l g 5 yX12_sharedMinutes cX12_sharedMinutes 5 (some .int) 194 194 0 0 [.ref (gb g + x0), .int x1, .int x2] (mkS σ R L) (PI R L r) := by
  refine Met.ofW (cc := cX12_sharedMinutes) (maxL := 5) (ret := (some .int)) (by decide) rfl ?_
  intro p e s m args below meth c s₁ B hml hv
  obtain ⟨rfl, hE, hLo, hWd⟩ := hv
  have hr : meth.sig.returnType = (some .int) := B.returns
  have C : Cx l g p s m meth c cX12_sharedMinutes 5 RX12 := ⟨B.exec, B.bytes, hml, findClass_of_methodNamed B.named, hE, hLo, B.notSynchronized⟩
  have S : S2 g s σ R L s.heap [] := ⟨hWd, va_S.rf⟩
  have hx := C.1
  have hb := C.2.1
  have hl := lv_entry ([.ref (gb g + x0), .int x1, .int x2]) (n := 5) (Nat.le_of_ble_eq_true rfl)
  rw [lg_entry_eq]
  generalize (lg_sl ([.ref (gb g + x0), .int x1, .int x2]) ++ List.replicate (5 - (lg_sl ([.ref (gb g + x0), .int x1, .int x2])).length) Slot.unset).toArray = ls at hl ⊢
  have hl : lv_has ls 5 [(0, .ref (gb g + x0)), (1, .int x1), (2, .int x2)] := hl
  generalize hH : s.heap = H at S ⊢
  generalize hlc : ([] : List Loc) = locs at S ⊢
  rw [f_X12_sharedMinutes] at h
  refine lv_aload_n hx hb dX12_sharedMinutes_0 rfl (lv_at hl 0 rfl) ?_
  refine lv_iconst (v := (0 : Int32)) hx hb dX12_sharedMinutes_1 (by decide) ?_
  obtain ⟨σ1, hs1, h⟩ := sq_el h
  refine x_putI C S KX12 hx0 0 (by decide) rfl rfl rfl ⟨rfl, rfl⟩ fl_RX12_3 dX12_sharedMinutes_2 hs1 (fun H locs S => ?_)
  refine lv_aload_n hx hb dX12_sharedMinutes_5 rfl (lv_at hl 0 rfl) ?_
  refine lv_iload_n hx hb dX12_sharedMinutes_6 rfl (lv_at hl 1 rfl) ?_
  obtain ⟨a2, σ2, hc2, h⟩ := bd_el h
  refine x_callVI C S KX12 hx0 (ok_X12_noRoad (L := L) hc2 hSh hx0) ⟨cd_X12_noRoad, ni_RX12, ml_RX12_257, in_X12_noRoad, sl_X12_noRoad⟩ ⟨by decide, by decide⟩ rfl ⟨by decide, by decide⟩ hl.1 rfl (Nat.le_of_ble_eq_true rfl) ⟨by decide, by decide⟩ dX12_sharedMinutes_7 (fun H locs S => ?_)
  refine lv_if_ne (tgt := 21) hx hb dX12_sharedMinutes_10 (by decide) (fun c3 => ?_) (fun c3 => ?_)
  · have h := it_n c3 h
    refine lv_iconst (v := (0 : Int32)) hx hb dX12_sharedMinutes_21 (by decide) ?_
    exact x_iret C S hr h dX12_sharedMinutes_22
  · have h := it_p c3 h
    refine lv_aload_n hx hb dX12_sharedMinutes_13 rfl (lv_at hl 0 rfl) ?_
    refine lv_iload_n hx hb dX12_sharedMinutes_14 rfl (lv_at hl 2 rfl) ?_
    obtain ⟨a4, σ4, hc4, h⟩ := bd_el h
    refine x_callVI C S KX12 hx0 (ok_X12_noRoad (L := L) hc4 hSh hx0) ⟨cd_X12_noRoad, ni_RX12, ml_RX12_257, in_X12_noRoad, sl_X12_noRoad⟩ ⟨by decide, by decide⟩ rfl ⟨by decide, by decide⟩ hl.1 rfl (Nat.le_of_ble_eq_true rfl) ⟨by decide, by decide⟩ dX12_sharedMinutes_15 (fun H locs S => ?_)
    refine lv_if_eq (tgt := 23) hx hb dX12_sharedMinutes_18 (by decide) (fun c5 => ?_) (fun c5 => ?_)
    · have h := it_p c5 h
      refine lv_aload_n hx hb dX12_sharedMinutes_23 rfl (lv_at hl 0 rfl) ?_
      refine lv_iload_n hx hb dX12_sharedMinutes_24 rfl (lv_at hl 2 rfl) ?_
      obtain ⟨a6, σ6, hc6, h⟩ := bd_el h
      refine x_callVV C S KX12 hx0 (ok_X12_paints (L := L) hc6 hSh hx0) ⟨cd_X12_paints, ni_RX12, ml_RX12_314, in_X12_paints, sl_X12_paints⟩ ⟨by decide, by decide⟩ rfl ⟨by decide, by decide⟩ hl.1 rfl (Nat.le_of_ble_eq_true rfl) ⟨by decide, by decide⟩ dX12_sharedMinutes_25 (fun H locs S => ?_)
      refine lv_iconst (v := (0 : Int32)) hx hb dX12_sharedMinutes_28 (by decide) ?_
      refine lv_istore_n (lv' := [(3, .int (0 : Int32)), (0, .ref (gb g + x0)), (1, .int x1), (2, .int x2)]) hx hb dX12_sharedMinutes_29 rfl hl (by decide) rfl (fun ls hl => ?_)
      exact w_X12_sharedMinutes_30 C hr hSh N σ6 x0 x1 (0 : Int32) h hx0 H locs ls S (lv_sub hl [1, 2, 0] rfl)
    · have h := it_n c5 h
      refine lv_iconst (v := (0 : Int32)) hx hb dX12_sharedMinutes_21 (by decide) ?_
      exact x_iret C S hr h dX12_sharedMinutes_22
theorem dX12_busiestHour_0 : decode cX12_busiestHour 0 = .ok (.aload_n 0, 1) := by decide +kernel
theorem dX12_busiestHour_1 : decode cX12_busiestHour 1 = .ok (.iconst 0, 1) := by decide +kernel
theorem dX12_busiestHour_2 : decode cX12_busiestHour 2 = .ok (.putfield 3, 3) := by decide +kernel
theorem dX12_busiestHour_5 : decode cX12_busiestHour 5 = .ok (.iconst 0, 1) := by decide +kernel
theorem dX12_busiestHour_6 : decode cX12_busiestHour 6 = .ok (.istore_n 1, 1) := by decide +kernel
theorem dX12_busiestHour_7 : decode cX12_busiestHour 7 = .ok (.iload_n 1, 1) := by decide +kernel
theorem dX12_busiestHour_8 : decode cX12_busiestHour 8 = .ok (.bipush 24, 2) := by decide +kernel
theorem dX12_busiestHour_10 : decode cX12_busiestHour 10 = .ok (.if_icmp .ge 16, 3) := by decide +kernel
theorem dX12_busiestHour_13 : decode cX12_busiestHour 13 = .ok (.aload_n 0, 1) := by decide +kernel
theorem dX12_busiestHour_14 : decode cX12_busiestHour 14 = .ok (.getfield 110, 3) := by decide +kernel
theorem dX12_busiestHour_17 : decode cX12_busiestHour 17 = .ok (.iload_n 1, 1) := by decide +kernel
theorem dX12_busiestHour_18 : decode cX12_busiestHour 18 = .ok (.iconst 0, 1) := by decide +kernel
theorem dX12_busiestHour_19 : decode cX12_busiestHour 19 = .ok (.iastore, 1) := by decide +kernel
theorem dX12_busiestHour_20 : decode cX12_busiestHour 20 = .ok (.iinc 1 1, 3) := by decide +kernel
theorem dX12_busiestHour_23 : decode cX12_busiestHour 23 = .ok (.goto (-16), 3) := by decide +kernel
theorem dX12_busiestHour_26 : decode cX12_busiestHour 26 = .ok (.iconst 0, 1) := by decide +kernel
theorem dX12_busiestHour_27 : decode cX12_busiestHour 27 = .ok (.istore_n 1, 1) := by decide +kernel
theorem dX12_busiestHour_28 : decode cX12_busiestHour 28 = .ok (.iload_n 1, 1) := by decide +kernel
theorem dX12_busiestHour_29 : decode cX12_busiestHour 29 = .ok (.aload_n 0, 1) := by decide +kernel
theorem dX12_busiestHour_30 : decode cX12_busiestHour 30 = .ok (.getfield 88, 3) := by decide +kernel
theorem dX12_busiestHour_33 : decode cX12_busiestHour 33 = .ok (.iconst 1, 1) := by decide +kernel
theorem dX12_busiestHour_34 : decode cX12_busiestHour 34 = .ok (.iaload, 1) := by decide +kernel
theorem dX12_busiestHour_35 : decode cX12_busiestHour 35 = .ok (.if_icmp .ge 52, 3) := by decide +kernel
theorem dX12_busiestHour_38 : decode cX12_busiestHour 38 = .ok (.aload_n 0, 1) := by decide +kernel
theorem dX12_busiestHour_39 : decode cX12_busiestHour 39 = .ok (.iload_n 1, 1) := by decide +kernel
theorem dX12_busiestHour_40 : decode cX12_busiestHour 40 = .ok (.invokevirtual 314, 3) := by decide +kernel
theorem dX12_busiestHour_43 : decode cX12_busiestHour 43 = .ok (.iconst 0, 1) := by decide +kernel
theorem dX12_busiestHour_44 : decode cX12_busiestHour 44 = .ok (.istore_n 2, 1) := by decide +kernel
theorem dX12_busiestHour_45 : decode cX12_busiestHour 45 = .ok (.iload_n 2, 1) := by decide +kernel
theorem dX12_busiestHour_46 : decode cX12_busiestHour 46 = .ok (.bipush 24, 2) := by decide +kernel
theorem dX12_busiestHour_48 : decode cX12_busiestHour 48 = .ok (.if_icmp .ge 33, 3) := by decide +kernel
theorem dX12_busiestHour_51 : decode cX12_busiestHour 51 = .ok (.aload_n 0, 1) := by decide +kernel
theorem dX12_busiestHour_52 : decode cX12_busiestHour 52 = .ok (.getfield 110, 3) := by decide +kernel
theorem dX12_busiestHour_55 : decode cX12_busiestHour 55 = .ok (.iload_n 2, 1) := by decide +kernel
theorem dX12_busiestHour_56 : decode cX12_busiestHour 56 = .ok (.dup2, 1) := by decide +kernel
theorem dX12_busiestHour_57 : decode cX12_busiestHour 57 = .ok (.iaload, 1) := by decide +kernel
theorem dX12_busiestHour_58 : decode cX12_busiestHour 58 = .ok (.aload_n 0, 1) := by decide +kernel
theorem dX12_busiestHour_59 : decode cX12_busiestHour 59 = .ok (.bipush 60, 2) := by decide +kernel
theorem dX12_busiestHour_61 : decode cX12_busiestHour 61 = .ok (.iload_n 2, 1) := by decide +kernel
theorem dX12_busiestHour_62 : decode cX12_busiestHour 62 = .ok (.imul, 1) := by decide +kernel
theorem dX12_busiestHour_63 : decode cX12_busiestHour 63 = .ok (.bipush 60, 2) := by decide +kernel
theorem dX12_busiestHour_65 : decode cX12_busiestHour 65 = .ok (.iload_n 2, 1) := by decide +kernel
theorem dX12_busiestHour_66 : decode cX12_busiestHour 66 = .ok (.imul, 1) := by decide +kernel
theorem dX12_busiestHour_67 : decode cX12_busiestHour 67 = .ok (.bipush 59, 2) := by decide +kernel
theorem dX12_busiestHour_69 : decode cX12_busiestHour 69 = .ok (.iadd, 1) := by decide +kernel
theorem dX12_busiestHour_70 : decode cX12_busiestHour 70 = .ok (.invokevirtual 318, 3) := by decide +kernel
theorem dX12_busiestHour_73 : decode cX12_busiestHour 73 = .ok (.iadd, 1) := by decide +kernel
theorem dX12_busiestHour_74 : decode cX12_busiestHour 74 = .ok (.iastore, 1) := by decide +kernel
theorem dX12_busiestHour_75 : decode cX12_busiestHour 75 = .ok (.iinc 2 1, 3) := by decide +kernel
theorem dX12_busiestHour_78 : decode cX12_busiestHour 78 = .ok (.goto (-33), 3) := by decide +kernel
theorem dX12_busiestHour_81 : decode cX12_busiestHour 81 = .ok (.iinc 1 1, 3) := by decide +kernel
theorem dX12_busiestHour_84 : decode cX12_busiestHour 84 = .ok (.goto (-56), 3) := by decide +kernel
theorem dX12_busiestHour_87 : decode cX12_busiestHour 87 = .ok (.iconst 0, 1) := by decide +kernel
theorem dX12_busiestHour_88 : decode cX12_busiestHour 88 = .ok (.istore_n 1, 1) := by decide +kernel
theorem dX12_busiestHour_89 : decode cX12_busiestHour 89 = .ok (.iconst 1, 1) := by decide +kernel
theorem dX12_busiestHour_90 : decode cX12_busiestHour 90 = .ok (.istore_n 2, 1) := by decide +kernel
theorem dX12_busiestHour_91 : decode cX12_busiestHour 91 = .ok (.iload_n 2, 1) := by decide +kernel
theorem dX12_busiestHour_92 : decode cX12_busiestHour 92 = .ok (.bipush 24, 2) := by decide +kernel
theorem dX12_busiestHour_94 : decode cX12_busiestHour 94 = .ok (.if_icmp .ge 26, 3) := by decide +kernel
theorem dX12_busiestHour_97 : decode cX12_busiestHour 97 = .ok (.aload_n 0, 1) := by decide +kernel
theorem dX12_busiestHour_98 : decode cX12_busiestHour 98 = .ok (.getfield 110, 3) := by decide +kernel
theorem dX12_busiestHour_101 : decode cX12_busiestHour 101 = .ok (.iload_n 2, 1) := by decide +kernel
theorem dX12_busiestHour_102 : decode cX12_busiestHour 102 = .ok (.iaload, 1) := by decide +kernel
theorem dX12_busiestHour_103 : decode cX12_busiestHour 103 = .ok (.aload_n 0, 1) := by decide +kernel
theorem dX12_busiestHour_104 : decode cX12_busiestHour 104 = .ok (.getfield 110, 3) := by decide +kernel
theorem dX12_busiestHour_107 : decode cX12_busiestHour 107 = .ok (.iload_n 1, 1) := by decide +kernel
theorem dX12_busiestHour_108 : decode cX12_busiestHour 108 = .ok (.iaload, 1) := by decide +kernel
theorem dX12_busiestHour_109 : decode cX12_busiestHour 109 = .ok (.if_icmp .le 5, 3) := by decide +kernel
theorem dX12_busiestHour_112 : decode cX12_busiestHour 112 = .ok (.iload_n 2, 1) := by decide +kernel
theorem dX12_busiestHour_113 : decode cX12_busiestHour 113 = .ok (.istore_n 1, 1) := by decide +kernel
theorem dX12_busiestHour_114 : decode cX12_busiestHour 114 = .ok (.iinc 2 1, 3) := by decide +kernel
theorem dX12_busiestHour_117 : decode cX12_busiestHour 117 = .ok (.goto (-26), 3) := by decide +kernel
theorem dX12_busiestHour_120 : decode cX12_busiestHour 120 = .ok (.aload_n 0, 1) := by decide +kernel
theorem dX12_busiestHour_121 : decode cX12_busiestHour 121 = .ok (.getfield 110, 3) := by decide +kernel
theorem dX12_busiestHour_124 : decode cX12_busiestHour 124 = .ok (.iload_n 1, 1) := by decide +kernel
theorem dX12_busiestHour_125 : decode cX12_busiestHour 125 = .ok (.iaload, 1) := by decide +kernel
theorem dX12_busiestHour_126 : decode cX12_busiestHour 126 = .ok (.ifCond .ne 7, 3) := by decide +kernel
theorem dX12_busiestHour_129 : decode cX12_busiestHour 129 = .ok (.iconst (-1), 1) := by decide +kernel
theorem dX12_busiestHour_130 : decode cX12_busiestHour 130 = .ok (.goto 4, 3) := by decide +kernel
theorem dX12_busiestHour_133 : decode cX12_busiestHour 133 = .ok (.iload_n 1, 1) := by decide +kernel
theorem dX12_busiestHour_134 : decode cX12_busiestHour 134 = .ok (.ireturn, 1) := by decide +kernel
def f_X12_busiestHour_114 (N : Nat) (R : Nat → Nat → Nat) (k91 : SI → Nat → Int32 → Int32 → Option (Int32 × SI)) (σ : SI) (x0 : Nat) (x1 : Int32) (x2 : Int32) : Option (Int32 × SI) := k91 σ x0 x1 (x2 + 1)
def f_X12_busiestHour_91 (N : Nat) (R : Nat → Nat → Nat) : Nat → SI → Nat → Int32 → Int32 → Option (Int32 × SI)
  | 0, _, _, _, _ => none
  | n + 1, σ, x0, x1, x2 => if (24 : Int32) ≤ x2 then (ck x1 24 (if (σ (R x0 19) x1.toNatClampNeg) = 0 then (some ((-1 : Int32), σ)) else (some (x1, σ)))) else (ck x2 24 (ck x1 24 (if (σ (R x0 19) x2.toNatClampNeg) ≤ (σ (R x0 19) x1.toNatClampNeg) then (f_X12_busiestHour_114 N R (fun σ x0 x1 x2 => f_X12_busiestHour_91 N R n σ x0 x1 x2) σ x0 x1 x2) else (f_X12_busiestHour_114 N R (fun σ x0 x1 x2 => f_X12_busiestHour_91 N R n σ x0 x1 x2) σ x0 x2 x2))))
def f_X12_busiestHour_45 (N : Nat) (R : Nat → Nat → Nat) (k28 : SI → Nat → Int32 → Option (Int32 × SI)) : Nat → SI → Nat → Int32 → Int32 → Option (Int32 × SI)
  | 0, _, _, _, _ => none
  | n + 1, σ, x0, x1, x2 => if (24 : Int32) ≤ x2 then (k28 σ x0 (x1 + 1)) else (ck x2 24 (bd (f_X12_paintedIn N R σ x0 ((60 : Int32) * x2) (((60 : Int32) * x2) + (59 : Int32))) (fun a19 σ19 => ck x2 24 (sq (up σ19 (R x0 19) x2.toNatClampNeg ((σ (R x0 19) x2.toNatClampNeg) + a19)) (fun σ21 => f_X12_busiestHour_45 N R k28 n σ21 x0 x1 (x2 + 1))))))
def f_X12_busiestHour_28 (N : Nat) (R : Nat → Nat → Nat) : Nat → SI → Nat → Int32 → Option (Int32 × SI)
  | 0, _, _, _ => none
  | n + 1, σ, x0, x1 => ck (1 : Int32) 417 (if (σ (R x0 11) (1 : Int32).toNatClampNeg) ≤ x1 then (f_X12_busiestHour_91 N R N σ x0 (0 : Int32) (1 : Int32)) else (bd (f_X12_paints N R σ x0 x1) (fun _ σ15 => f_X12_busiestHour_45 N R (fun σ x0 x1 => f_X12_busiestHour_28 N R n σ x0 x1) N σ15 x0 x1 (0 : Int32))))
def f_X12_busiestHour_7 (N : Nat) (R : Nat → Nat → Nat) : Nat → SI → Nat → Int32 → Option (Int32 × SI)
  | 0, _, _, _ => none
  | n + 1, σ, x0, x1 => if (24 : Int32) ≤ x1 then (f_X12_busiestHour_28 N R N σ x0 (0 : Int32)) else (ck x1 24 (sq (up σ (R x0 19) x1.toNatClampNeg (0 : Int32)) (fun σ24 => f_X12_busiestHour_7 N R n σ24 x0 (x1 + 1))))
def f_X12_busiestHour (N : Nat) (R : Nat → Nat → Nat) (σ : SI) (x0 : Nat) : Option (Int32 × SI) := sq (up σ x0 0 (0 : Int32)) (fun σ1 => f_X12_busiestHour_7 N R N σ1 x0 (0 : Int32))
set_option maxHeartbeats 4000000 in
set_option maxRecDepth 100000 in
theorem w_X12_busiestHour_114 {l : Launch} {g : GL} {p : Program} {e : Jvm.Env} {s : State} {m : MethodId} {args : Array Value} {below : List Frame} {meth : Method} {c : Code} {R : Nat → Nat → Nat} {L : Nat → Nat → Int64} {r : (Int32 × SI)} {N : Nat} {k91 : SI → Nat → Int32 → Int32 → Option (Int32 × SI)} (C : Cx l g p s m meth c cX12_busiestHour 3 RX12) (hr : meth.sig.returnType = (some .int)) (hSh : ShR R) (hk91 : ∀ (σ : SI) (x0 : Nat) (x1 : Int32) (x2 : Int32), k91 σ x0 x1 x2 = some r → Ok 194 x0 12 → ∀ (H : Heap) (locs : List Loc) (ls : Array Slot), S2 g s σ R L H locs → lv_has ls 3 [(0, .ref (gb g + x0)), (1, .int x1), (2, .int x2)] → W p l e (rmd 5 0 0) s m args below meth c H locs 0 0 (MQ below (Qg g 194 (PI R L r)) args s 0 0 (gA g)) (F0 m 91 ls [])) : ∀ (σ : SI) (x0 : Nat) (x1 : Int32) (x2 : Int32), f_X12_busiestHour_114 N R k91 σ x0 x1 x2 = some r → Ok 194 x0 12 → ∀ (H : Heap) (locs : List Loc) (ls : Array Slot), S2 g s σ R L H locs → lv_has ls 3 [(0, .ref (gb g + x0)), (1, .int x1), (2, .int x2)] → W p l e (rmd 5 0 0) s m args below meth c H locs 0 0 (MQ below (Qg g 194 (PI R L r)) args s 0 0 (gA g)) (F0 m 114 ls []) := by
  have hx := C.1
  have hb := C.2.1
  intro σ x0 x1 x2 h hx0 H locs ls S hl
  rw [f_X12_busiestHour_114] at h
  refine lv_iinc (v := x2 + 1) (lv' := [(2, .int (x2 + 1)), (0, .ref (gb g + x0)), (1, .int x1)]) hx hb dX12_busiestHour_114 hl (k := 2) rfl rfl (by decide) rfl (fun ls hl => ?_)
  refine lv_goto (tgt := 91) hx hb dX12_busiestHour_117 (by decide) ?_
  exact hk91 σ x0 x1 (x2 + 1) h hx0 H locs ls S (lv_sub hl [1, 2, 0] rfl)
set_option maxHeartbeats 4000000 in
set_option maxRecDepth 100000 in
theorem w_X12_busiestHour_91 {l : Launch} {g : GL} {p : Program} {e : Jvm.Env} {s : State} {m : MethodId} {args : Array Value} {below : List Frame} {meth : Method} {c : Code} {R : Nat → Nat → Nat} {L : Nat → Nat → Int64} {r : (Int32 × SI)} {N : Nat} (C : Cx l g p s m meth c cX12_busiestHour 3 RX12) (hr : meth.sig.returnType = (some .int)) (hSh : ShR R) : ∀ (n : Nat) (σ : SI) (x0 : Nat) (x1 : Int32) (x2 : Int32), f_X12_busiestHour_91 N R n σ x0 x1 x2 = some r → Ok 194 x0 12 → ∀ (H : Heap) (locs : List Loc) (ls : Array Slot), S2 g s σ R L H locs → lv_has ls 3 [(0, .ref (gb g + x0)), (1, .int x1), (2, .int x2)] → W p l e (rmd 5 0 0) s m args below meth c H locs 0 0 (MQ below (Qg g 194 (PI R L r)) args s 0 0 (gA g)) (F0 m 91 ls []) := by
  have hx := C.1
  have hb := C.2.1
  intro n
  induction n with
  | zero =>
    intro σ x0 x1 x2 h
    cases (show (none : Option (Int32 × SI)) = some r from h)
  | succ n ih =>
    intro σ x0 x1 x2 h hx0 H locs ls S hl
    rw [f_X12_busiestHour_91] at h
    refine lv_iload_n hx hb dX12_busiestHour_91 rfl (lv_at hl 2 rfl) ?_
    refine lv_bipush (v := (24 : Int32)) hx hb dX12_busiestHour_92 (by decide) ?_
    refine lv_icmp_ge (tgt := 120) hx hb dX12_busiestHour_94 (by decide) (fun c6 => ?_) (fun c6 => ?_)
    · have h := it_p c6 h
      refine lv_aload_n hx hb dX12_busiestHour_120 rfl (lv_at hl 0 rfl) ?_
      have hR7 : Ok 194 (R x0 19) 10024 := hSh x0 12 19 10024 hx0.1 rfl
      refine x_getR C S KX12 hx0 19 (by decide) rfl rfl fl_RX12_110 hR7 dX12_busiestHour_121 ?_
      refine lv_iload_n hx hb dX12_busiestHour_124 rfl (lv_at hl 1 rfl) ?_
      obtain ⟨hi8, h⟩ := ck_el h
      refine x_iald (len := 24) C S (by decide) hR7 hi8 dX12_busiestHour_125 ?_
      refine lv_if_ne (tgt := 133) hx hb dX12_busiestHour_126 (by decide) (fun c9 => ?_) (fun c9 => ?_)
      · have h := it_n c9 h
        refine lv_iload_n hx hb dX12_busiestHour_133 rfl (lv_at hl 1 rfl) ?_
        exact x_iret C S hr h dX12_busiestHour_134
      · have h := it_p c9 h
        refine lv_iconst (v := (-1 : Int32)) hx hb dX12_busiestHour_129 (by decide) ?_
        refine lv_goto (tgt := 134) hx hb dX12_busiestHour_130 (by decide) ?_
        exact x_iret C S hr h dX12_busiestHour_134
    · have h := it_n c6 h
      refine lv_aload_n hx hb dX12_busiestHour_97 rfl (lv_at hl 0 rfl) ?_
      have hR10 : Ok 194 (R x0 19) 10024 := hSh x0 12 19 10024 hx0.1 rfl
      refine x_getR C S KX12 hx0 19 (by decide) rfl rfl fl_RX12_110 hR10 dX12_busiestHour_98 ?_
      refine lv_iload_n hx hb dX12_busiestHour_101 rfl (lv_at hl 2 rfl) ?_
      obtain ⟨hi11, h⟩ := ck_el h
      refine x_iald (len := 24) C S (by decide) hR10 hi11 dX12_busiestHour_102 ?_
      refine lv_aload_n hx hb dX12_busiestHour_103 rfl (lv_at hl 0 rfl) ?_
      have hR12 : Ok 194 (R x0 19) 10024 := hSh x0 12 19 10024 hx0.1 rfl
      refine x_getR C S KX12 hx0 19 (by decide) rfl rfl fl_RX12_110 hR12 dX12_busiestHour_104 ?_
      refine lv_iload_n hx hb dX12_busiestHour_107 rfl (lv_at hl 1 rfl) ?_
      obtain ⟨hi13, h⟩ := ck_el h
      refine x_iald (len := 24) C S (by decide) hR12 hi13 dX12_busiestHour_108 ?_
      refine lv_icmp_le (tgt := 114) hx hb dX12_busiestHour_109 (by decide) (fun c14 => ?_) (fun c14 => ?_)
      · have h := it_p c14 h
        exact w_X12_busiestHour_114 C hr hSh ih σ x0 x1 x2 h hx0 H locs ls S (lv_sub hl [0, 1, 2] rfl)
      · have h := it_n c14 h
        refine lv_iload_n hx hb dX12_busiestHour_112 rfl (lv_at hl 2 rfl) ?_
        refine lv_istore_n (lv' := [(1, .int x2), (0, .ref (gb g + x0)), (2, .int x2)]) hx hb dX12_busiestHour_113 rfl hl (by decide) rfl (fun ls hl => ?_)
        exact w_X12_busiestHour_114 C hr hSh ih σ x0 x2 x2 h hx0 H locs ls S (lv_sub hl [1, 0, 2] rfl)
set_option maxHeartbeats 4000000 in
set_option maxRecDepth 100000 in
theorem w_X12_busiestHour_45 {l : Launch} {g : GL} {p : Program} {e : Jvm.Env} {s : State} {m : MethodId} {args : Array Value} {below : List Frame} {meth : Method} {c : Code} {R : Nat → Nat → Nat} {L : Nat → Nat → Int64} {r : (Int32 × SI)} {N : Nat} {k28 : SI → Nat → Int32 → Option (Int32 × SI)} (C : Cx l g p s m meth c cX12_busiestHour 3 RX12) (hr : meth.sig.returnType = (some .int)) (hSh : ShR R) (hk28 : ∀ (σ : SI) (x0 : Nat) (x1 : Int32), k28 σ x0 x1 = some r → Ok 194 x0 12 → ∀ (H : Heap) (locs : List Loc) (ls : Array Slot), S2 g s σ R L H locs → lv_has ls 3 [(0, .ref (gb g + x0)), (1, .int x1)] → W p l e (rmd 5 0 0) s m args below meth c H locs 0 0 (MQ below (Qg g 194 (PI R L r)) args s 0 0 (gA g)) (F0 m 28 ls [])) : ∀ (n : Nat) (σ : SI) (x0 : Nat) (x1 : Int32) (x2 : Int32), f_X12_busiestHour_45 N R k28 n σ x0 x1 x2 = some r → Ok 194 x0 12 → ∀ (H : Heap) (locs : List Loc) (ls : Array Slot), S2 g s σ R L H locs → lv_has ls 3 [(0, .ref (gb g + x0)), (1, .int x1), (2, .int x2)] → W p l e (rmd 5 0 0) s m args below meth c H locs 0 0 (MQ below (Qg g 194 (PI R L r)) args s 0 0 (gA g)) (F0 m 45 ls []) := by
  have hx := C.1
  have hb := C.2.1
  intro n
  induction n with
  | zero =>
    intro σ x0 x1 x2 h
    cases (show (none : Option (Int32 × SI)) = some r from h)
  | succ n ih =>
    intro σ x0 x1 x2 h hx0 H locs ls S hl
    rw [f_X12_busiestHour_45] at h
    refine lv_iload_n hx hb dX12_busiestHour_45 rfl (lv_at hl 2 rfl) ?_
    refine lv_bipush (v := (24 : Int32)) hx hb dX12_busiestHour_46 (by decide) ?_
    refine lv_icmp_ge (tgt := 81) hx hb dX12_busiestHour_48 (by decide) (fun c16 => ?_) (fun c16 => ?_)
    · have h := it_p c16 h
      refine lv_iinc (v := x1 + 1) (lv' := [(1, .int (x1 + 1)), (0, .ref (gb g + x0)), (2, .int x2)]) hx hb dX12_busiestHour_81 hl (k := 1) rfl rfl (by decide) rfl (fun ls hl => ?_)
      refine lv_goto (tgt := 28) hx hb dX12_busiestHour_84 (by decide) ?_
      exact hk28 σ x0 (x1 + 1) h hx0 H locs ls S (lv_sub hl [1, 0] rfl)
    · have h := it_n c16 h
      refine lv_aload_n hx hb dX12_busiestHour_51 rfl (lv_at hl 0 rfl) ?_
      have hR17 : Ok 194 (R x0 19) 10024 := hSh x0 12 19 10024 hx0.1 rfl
      refine x_getR C S KX12 hx0 19 (by decide) rfl rfl fl_RX12_110 hR17 dX12_busiestHour_52 ?_
      refine lv_iload_n hx hb dX12_busiestHour_55 rfl (lv_at hl 2 rfl) ?_
      refine lv_dup2_11 hx hb dX12_busiestHour_56 rfl rfl ?_
      obtain ⟨hi18, h⟩ := ck_el h
      refine x_iald (len := 24) C S (by decide) hR17 hi18 dX12_busiestHour_57 ?_
      refine lv_aload_n hx hb dX12_busiestHour_58 rfl (lv_at hl 0 rfl) ?_
      refine lv_bipush (v := (60 : Int32)) hx hb dX12_busiestHour_59 (by decide) ?_
      refine lv_iload_n hx hb dX12_busiestHour_61 rfl (lv_at hl 2 rfl) ?_
      refine lv_imul hx hb dX12_busiestHour_62 ?_
      refine lv_bipush (v := (60 : Int32)) hx hb dX12_busiestHour_63 (by decide) ?_
      refine lv_iload_n hx hb dX12_busiestHour_65 rfl (lv_at hl 2 rfl) ?_
      refine lv_imul hx hb dX12_busiestHour_66 ?_
      refine lv_bipush (v := (59 : Int32)) hx hb dX12_busiestHour_67 (by decide) ?_
      refine lv_iadd hx hb dX12_busiestHour_69 ?_
      obtain ⟨a19, σ19, hc19, h⟩ := bd_el h
      refine x_callVI C S KX12 hx0 (ok_X12_paintedIn (L := L) hc19 hSh hx0) ⟨cd_X12_paintedIn, ni_RX12, ml_RX12_318, in_X12_paintedIn, sl_X12_paintedIn⟩ ⟨by decide, by decide⟩ rfl ⟨by decide, by decide⟩ hl.1 rfl (Nat.le_of_ble_eq_true rfl) ⟨by decide, by decide⟩ dX12_busiestHour_70 (fun H locs S => ?_)
      refine lv_iadd hx hb dX12_busiestHour_73 ?_
      obtain ⟨hi20, h⟩ := ck_el h
      obtain ⟨σ21, hs21, h⟩ := sq_el h
      refine x_iast (len := 24) C S (by decide) hR17 hi20 dX12_busiestHour_74 hs21 (fun H locs S => ?_)
      refine lv_iinc (v := x2 + 1) (lv' := [(2, .int (x2 + 1)), (0, .ref (gb g + x0)), (1, .int x1)]) hx hb dX12_busiestHour_75 hl (k := 2) rfl rfl (by decide) rfl (fun ls hl => ?_)
      refine lv_goto (tgt := 45) hx hb dX12_busiestHour_78 (by decide) ?_
      exact ih σ21 x0 x1 (x2 + 1) h hx0 H locs ls S (lv_sub hl [1, 2, 0] rfl)
set_option maxHeartbeats 4000000 in
set_option maxRecDepth 100000 in
theorem w_X12_busiestHour_28 {l : Launch} {g : GL} {p : Program} {e : Jvm.Env} {s : State} {m : MethodId} {args : Array Value} {below : List Frame} {meth : Method} {c : Code} {R : Nat → Nat → Nat} {L : Nat → Nat → Int64} {r : (Int32 × SI)} {N : Nat} (C : Cx l g p s m meth c cX12_busiestHour 3 RX12) (hr : meth.sig.returnType = (some .int)) (hSh : ShR R) : ∀ (n : Nat) (σ : SI) (x0 : Nat) (x1 : Int32), f_X12_busiestHour_28 N R n σ x0 x1 = some r → Ok 194 x0 12 → ∀ (H : Heap) (locs : List Loc) (ls : Array Slot), S2 g s σ R L H locs → lv_has ls 3 [(0, .ref (gb g + x0)), (1, .int x1)] → W p l e (rmd 5 0 0) s m args below meth c H locs 0 0 (MQ below (Qg g 194 (PI R L r)) args s 0 0 (gA g)) (F0 m 28 ls []) := by
  have hx := C.1
  have hb := C.2.1
  intro n
  induction n with
  | zero =>
    intro σ x0 x1 h
    cases (show (none : Option (Int32 × SI)) = some r from h)
  | succ n ih =>
    intro σ x0 x1 h hx0 H locs ls S hl
    rw [f_X12_busiestHour_28] at h
    refine lv_iload_n hx hb dX12_busiestHour_28 rfl (lv_at hl 1 rfl) ?_
    refine lv_aload_n hx hb dX12_busiestHour_29 rfl (lv_at hl 0 rfl) ?_
    have hR3 : Ok 194 (R x0 11) 10417 := hSh x0 12 11 10417 hx0.1 rfl
    refine x_getR C S KX12 hx0 11 (by decide) rfl rfl fl_RX12_88 hR3 dX12_busiestHour_30 ?_
    refine lv_iconst (v := (1 : Int32)) hx hb dX12_busiestHour_33 (by decide) ?_
    obtain ⟨hi4, h⟩ := ck_el h
    refine x_iald (len := 417) C S (by decide) hR3 hi4 dX12_busiestHour_34 ?_
    refine lv_icmp_ge (tgt := 87) hx hb dX12_busiestHour_35 (by decide) (fun c5 => ?_) (fun c5 => ?_)
    · have h := it_p c5 h
      refine lv_iconst (v := (0 : Int32)) hx hb dX12_busiestHour_87 (by decide) ?_
      refine lv_istore_n (lv' := [(1, .int (0 : Int32)), (0, .ref (gb g + x0))]) hx hb dX12_busiestHour_88 rfl hl (by decide) rfl (fun ls hl => ?_)
      refine lv_iconst (v := (1 : Int32)) hx hb dX12_busiestHour_89 (by decide) ?_
      refine lv_istore_n (lv' := [(2, .int (1 : Int32)), (1, .int (0 : Int32)), (0, .ref (gb g + x0))]) hx hb dX12_busiestHour_90 rfl hl (by decide) rfl (fun ls hl => ?_)
      exact w_X12_busiestHour_91 C hr hSh N σ x0 (0 : Int32) (1 : Int32) h hx0 H locs ls S (lv_sub hl [2, 1, 0] rfl)
    · have h := it_n c5 h
      refine lv_aload_n hx hb dX12_busiestHour_38 rfl (lv_at hl 0 rfl) ?_
      refine lv_iload_n hx hb dX12_busiestHour_39 rfl (lv_at hl 1 rfl) ?_
      obtain ⟨a15, σ15, hc15, h⟩ := bd_el h
      refine x_callVV C S KX12 hx0 (ok_X12_paints (L := L) hc15 hSh hx0) ⟨cd_X12_paints, ni_RX12, ml_RX12_314, in_X12_paints, sl_X12_paints⟩ ⟨by decide, by decide⟩ rfl ⟨by decide, by decide⟩ hl.1 rfl (Nat.le_of_ble_eq_true rfl) ⟨by decide, by decide⟩ dX12_busiestHour_40 (fun H locs S => ?_)
      refine lv_iconst (v := (0 : Int32)) hx hb dX12_busiestHour_43 (by decide) ?_
      refine lv_istore_n (lv' := [(2, .int (0 : Int32)), (0, .ref (gb g + x0)), (1, .int x1)]) hx hb dX12_busiestHour_44 rfl hl (by decide) rfl (fun ls hl => ?_)
      exact w_X12_busiestHour_45 C hr hSh ih N σ15 x0 x1 (0 : Int32) h hx0 H locs ls S (lv_sub hl [1, 2, 0] rfl)
set_option maxHeartbeats 4000000 in
set_option maxRecDepth 100000 in
theorem w_X12_busiestHour_7 {l : Launch} {g : GL} {p : Program} {e : Jvm.Env} {s : State} {m : MethodId} {args : Array Value} {below : List Frame} {meth : Method} {c : Code} {R : Nat → Nat → Nat} {L : Nat → Nat → Int64} {r : (Int32 × SI)} {N : Nat} (C : Cx l g p s m meth c cX12_busiestHour 3 RX12) (hr : meth.sig.returnType = (some .int)) (hSh : ShR R) : ∀ (n : Nat) (σ : SI) (x0 : Nat) (x1 : Int32), f_X12_busiestHour_7 N R n σ x0 x1 = some r → Ok 194 x0 12 → ∀ (H : Heap) (locs : List Loc) (ls : Array Slot), S2 g s σ R L H locs → lv_has ls 3 [(0, .ref (gb g + x0)), (1, .int x1)] → W p l e (rmd 5 0 0) s m args below meth c H locs 0 0 (MQ below (Qg g 194 (PI R L r)) args s 0 0 (gA g)) (F0 m 7 ls []) := by
  have hx := C.1
  have hb := C.2.1
  intro n
  induction n with
  | zero =>
    intro σ x0 x1 h
    cases (show (none : Option (Int32 × SI)) = some r from h)
  | succ n ih =>
    intro σ x0 x1 h hx0 H locs ls S hl
    rw [f_X12_busiestHour_7] at h
    refine lv_iload_n hx hb dX12_busiestHour_7 rfl (lv_at hl 1 rfl) ?_
    refine lv_bipush (v := (24 : Int32)) hx hb dX12_busiestHour_8 (by decide) ?_
    refine lv_icmp_ge (tgt := 26) hx hb dX12_busiestHour_10 (by decide) (fun c2 => ?_) (fun c2 => ?_)
    · have h := it_p c2 h
      refine lv_iconst (v := (0 : Int32)) hx hb dX12_busiestHour_26 (by decide) ?_
      refine lv_istore_n (lv' := [(1, .int (0 : Int32)), (0, .ref (gb g + x0))]) hx hb dX12_busiestHour_27 rfl hl (by decide) rfl (fun ls hl => ?_)
      exact w_X12_busiestHour_28 C hr hSh N σ x0 (0 : Int32) h hx0 H locs ls S (lv_sub hl [1, 0] rfl)
    · have h := it_n c2 h
      refine lv_aload_n hx hb dX12_busiestHour_13 rfl (lv_at hl 0 rfl) ?_
      have hR22 : Ok 194 (R x0 19) 10024 := hSh x0 12 19 10024 hx0.1 rfl
      refine x_getR C S KX12 hx0 19 (by decide) rfl rfl fl_RX12_110 hR22 dX12_busiestHour_14 ?_
      refine lv_iload_n hx hb dX12_busiestHour_17 rfl (lv_at hl 1 rfl) ?_
      refine lv_iconst (v := (0 : Int32)) hx hb dX12_busiestHour_18 (by decide) ?_
      obtain ⟨hi23, h⟩ := ck_el h
      obtain ⟨σ24, hs24, h⟩ := sq_el h
      refine x_iast (len := 24) C S (by decide) hR22 hi23 dX12_busiestHour_19 hs24 (fun H locs S => ?_)
      refine lv_iinc (v := x1 + 1) (lv' := [(1, .int (x1 + 1)), (0, .ref (gb g + x0))]) hx hb dX12_busiestHour_20 hl (k := 1) rfl rfl (by decide) rfl (fun ls hl => ?_)
      refine lv_goto (tgt := 7) hx hb dX12_busiestHour_23 (by decide) ?_
      exact ih σ24 x0 (x1 + 1) h hx0 H locs ls S (lv_sub hl [1, 0] rfl)
set_option maxHeartbeats 4000000 in
set_option maxRecDepth 100000 in
theorem ok_X12_busiestHour {l : Launch} {g : GL} {R : Nat → Nat → Nat} {L : Nat → Nat → Int64} {N : Nat} {σ : SI} {x0 : Nat} {r : (Int32 × SI)} (h : f_X12_busiestHour N R σ x0 = some r) (hSh : ShR R) (hx0 : Ok 194 x0 12) : Ct l g 5 yX12_busiestHour cX12_busiestHour 3 (some .int) 194 194 0 0 [.ref (gb g + x0)] (mkS σ R L) (PI R L r) := by
  refine Met.ofW (cc := cX12_busiestHour) (maxL := 3) (ret := (some .int)) (by decide) rfl ?_
  intro p e s m args below meth c s₁ B hml hv
  obtain ⟨rfl, hE, hLo, hWd⟩ := hv
  have hr : meth.sig.returnType = (some .int) := B.returns
  have C : Cx l g p s m meth c cX12_busiestHour 3 RX12 := ⟨B.exec, B.bytes, hml, findClass_of_methodNamed B.named, hE, hLo, B.notSynchronized⟩
  have S : S2 g s σ R L s.heap [] := ⟨hWd, va_S.rf⟩
  have hx := C.1
  have hb := C.2.1
  have hl := lv_entry ([.ref (gb g + x0)]) (n := 3) (Nat.le_of_ble_eq_true rfl)
  rw [lg_entry_eq]
  generalize (lg_sl ([.ref (gb g + x0)]) ++ List.replicate (3 - (lg_sl ([.ref (gb g + x0)])).length) Slot.unset).toArray = ls at hl ⊢
  have hl : lv_has ls 3 [(0, .ref (gb g + x0))] := hl
  generalize hH : s.heap = H at S ⊢
  generalize hlc : ([] : List Loc) = locs at S ⊢
  rw [f_X12_busiestHour] at h
  refine lv_aload_n hx hb dX12_busiestHour_0 rfl (lv_at hl 0 rfl) ?_
  refine lv_iconst (v := (0 : Int32)) hx hb dX12_busiestHour_1 (by decide) ?_
  obtain ⟨σ1, hs1, h⟩ := sq_el h
  refine x_putI C S KX12 hx0 0 (by decide) rfl rfl rfl ⟨rfl, rfl⟩ fl_RX12_3 dX12_busiestHour_2 hs1 (fun H locs S => ?_)
  refine lv_iconst (v := (0 : Int32)) hx hb dX12_busiestHour_5 (by decide) ?_
  refine lv_istore_n (lv' := [(1, .int (0 : Int32)), (0, .ref (gb g + x0))]) hx hb dX12_busiestHour_6 rfl hl (by decide) rfl (fun ls hl => ?_)
  exact w_X12_busiestHour_7 C hr hSh N σ1 x0 (0 : Int32) h hx0 H locs ls S (lv_sub hl [1, 0] rfl)
theorem dX12_timed_0 : decode cX12_timed 0 = .ok (.iconst 0, 1) := by decide +kernel
theorem dX12_timed_1 : decode cX12_timed 1 = .ok (.istore_n 1, 1) := by decide +kernel
theorem dX12_timed_2 : decode cX12_timed 2 = .ok (.iconst 0, 1) := by decide +kernel
theorem dX12_timed_3 : decode cX12_timed 3 = .ok (.istore_n 2, 1) := by decide +kernel
theorem dX12_timed_4 : decode cX12_timed 4 = .ok (.iload_n 2, 1) := by decide +kernel
theorem dX12_timed_5 : decode cX12_timed 5 = .ok (.aload_n 0, 1) := by decide +kernel
theorem dX12_timed_6 : decode cX12_timed 6 = .ok (.invokevirtual 142, 3) := by decide +kernel
theorem dX12_timed_9 : decode cX12_timed 9 = .ok (.if_icmp .ge 26, 3) := by decide +kernel
theorem dX12_timed_12 : decode cX12_timed 12 = .ok (.iload_n 1, 1) := by decide +kernel
theorem dX12_timed_13 : decode cX12_timed 13 = .ok (.aload_n 0, 1) := by decide +kernel
theorem dX12_timed_14 : decode cX12_timed 14 = .ok (.iload_n 2, 1) := by decide +kernel
theorem dX12_timed_15 : decode cX12_timed 15 = .ok (.invokevirtual 281, 3) := by decide +kernel
theorem dX12_timed_18 : decode cX12_timed 18 = .ok (.iconst (-1), 1) := by decide +kernel
theorem dX12_timed_19 : decode cX12_timed 19 = .ok (.if_icmp .ne 7, 3) := by decide +kernel
theorem dX12_timed_22 : decode cX12_timed 22 = .ok (.iconst 0, 1) := by decide +kernel
theorem dX12_timed_23 : decode cX12_timed 23 = .ok (.goto 4, 3) := by decide +kernel
theorem dX12_timed_26 : decode cX12_timed 26 = .ok (.iconst 1, 1) := by decide +kernel
theorem dX12_timed_27 : decode cX12_timed 27 = .ok (.iadd, 1) := by decide +kernel
theorem dX12_timed_28 : decode cX12_timed 28 = .ok (.istore_n 1, 1) := by decide +kernel
theorem dX12_timed_29 : decode cX12_timed 29 = .ok (.iinc 2 1, 3) := by decide +kernel
theorem dX12_timed_32 : decode cX12_timed 32 = .ok (.goto (-28), 3) := by decide +kernel
theorem dX12_timed_35 : decode cX12_timed 35 = .ok (.iload_n 1, 1) := by decide +kernel
theorem dX12_timed_36 : decode cX12_timed 36 = .ok (.ireturn, 1) := by decide +kernel
def f_X12_timed_4 (N : Nat) (R : Nat → Nat → Nat) : Nat → SI → Nat → Int32 → Int32 → Option (Int32 × SI)
  | 0, _, _, _, _ => none
  | n + 1, σ, x0, x1, x2 => bd (f_X12_blasts N R σ x0) (fun a1 σ1 => if a1 ≤ x2 then (some (x1, σ1)) else (bd (f_X12_time N R σ1 x0 x2) (fun a3 σ3 => if a3 = (-1 : Int32) then (f_X12_timed_4 N R n σ3 x0 (x1 + (0 : Int32)) (x2 + 1)) else (f_X12_timed_4 N R n σ3 x0 (x1 + (1 : Int32)) (x2 + 1)))))
def f_X12_timed (N : Nat) (R : Nat → Nat → Nat) (σ : SI) (x0 : Nat) : Option (Int32 × SI) := f_X12_timed_4 N R N σ x0 (0 : Int32) (0 : Int32)
set_option maxHeartbeats 4000000 in
set_option maxRecDepth 100000 in
theorem w_X12_timed_4 {l : Launch} {g : GL} {p : Program} {e : Jvm.Env} {s : State} {m : MethodId} {args : Array Value} {below : List Frame} {meth : Method} {c : Code} {R : Nat → Nat → Nat} {L : Nat → Nat → Int64} {r : (Int32 × SI)} {N : Nat} (C : Cx l g p s m meth c cX12_timed 3 RX12) (hr : meth.sig.returnType = (some .int)) (hSh : ShR R) : ∀ (n : Nat) (σ : SI) (x0 : Nat) (x1 : Int32) (x2 : Int32), f_X12_timed_4 N R n σ x0 x1 x2 = some r → Ok 194 x0 12 → ∀ (H : Heap) (locs : List Loc) (ls : Array Slot), S2 g s σ R L H locs → lv_has ls 3 [(0, .ref (gb g + x0)), (1, .int x1), (2, .int x2)] → W p l e (rmd 2 0 0) s m args below meth c H locs 0 0 (MQ below (Qg g 194 (PI R L r)) args s 0 0 (gA g)) (F0 m 4 ls []) := by
  have hx := C.1
  have hb := C.2.1
  intro n
  induction n with
  | zero =>
    intro σ x0 x1 x2 h
    cases (show (none : Option (Int32 × SI)) = some r from h)
  | succ n ih =>
    intro σ x0 x1 x2 h hx0 H locs ls S hl
    rw [f_X12_timed_4] at h
    refine lv_iload_n hx hb dX12_timed_4 rfl (lv_at hl 2 rfl) ?_
    refine lv_aload_n hx hb dX12_timed_5 rfl (lv_at hl 0 rfl) ?_
    obtain ⟨a1, σ1, hc1, h⟩ := bd_el h
    refine x_callVI C S KX12 hx0 (ok_X12_blasts (L := L) hc1 hSh hx0) ⟨cd_X12_blasts, ni_RX12, ml_RX12_142, in_X12_blasts, sl_X12_blasts⟩ ⟨by decide, by decide⟩ rfl ⟨by decide, by decide⟩ hl.1 rfl (Nat.le_of_ble_eq_true rfl) ⟨by decide, by decide⟩ dX12_timed_6 (fun H locs S => ?_)
    refine lv_icmp_ge (tgt := 35) hx hb dX12_timed_9 (by decide) (fun c2 => ?_) (fun c2 => ?_)
    · have h := it_p c2 h
      refine lv_iload_n hx hb dX12_timed_35 rfl (lv_at hl 1 rfl) ?_
      exact x_iret C S hr h dX12_timed_36
    · have h := it_n c2 h
      refine lv_iload_n hx hb dX12_timed_12 rfl (lv_at hl 1 rfl) ?_
      refine lv_aload_n hx hb dX12_timed_13 rfl (lv_at hl 0 rfl) ?_
      refine lv_iload_n hx hb dX12_timed_14 rfl (lv_at hl 2 rfl) ?_
      obtain ⟨a3, σ3, hc3, h⟩ := bd_el h
      refine x_callVI C S KX12 hx0 (ok_X12_time (L := L) hc3 hSh hx0) ⟨cd_X12_time, ni_RX12, ml_RX12_281, in_X12_time, sl_X12_time⟩ ⟨by decide, by decide⟩ rfl ⟨by decide, by decide⟩ hl.1 rfl (Nat.le_of_ble_eq_true rfl) ⟨by decide, by decide⟩ dX12_timed_15 (fun H locs S => ?_)
      refine lv_iconst (v := (-1 : Int32)) hx hb dX12_timed_18 (by decide) ?_
      refine lv_icmp_ne (tgt := 26) hx hb dX12_timed_19 (by decide) (fun c4 => ?_) (fun c4 => ?_)
      · have h := it_n c4 h
        refine lv_iconst (v := (1 : Int32)) hx hb dX12_timed_26 (by decide) ?_
        refine lv_iadd hx hb dX12_timed_27 ?_
        refine lv_istore_n (lv' := [(1, .int (x1 + (1 : Int32))), (0, .ref (gb g + x0)), (2, .int x2)]) hx hb dX12_timed_28 rfl hl (by decide) rfl (fun ls hl => ?_)
        refine lv_iinc (v := x2 + 1) (lv' := [(2, .int (x2 + 1)), (1, .int (x1 + (1 : Int32))), (0, .ref (gb g + x0))]) hx hb dX12_timed_29 hl (k := 2) rfl rfl (by decide) rfl (fun ls hl => ?_)
        refine lv_goto (tgt := 4) hx hb dX12_timed_32 (by decide) ?_
        exact ih σ3 x0 (x1 + (1 : Int32)) (x2 + 1) h hx0 H locs ls S (lv_sub hl [2, 1, 0] rfl)
      · have h := it_p c4 h
        refine lv_iconst (v := (0 : Int32)) hx hb dX12_timed_22 (by decide) ?_
        refine lv_goto (tgt := 27) hx hb dX12_timed_23 (by decide) ?_
        refine lv_iadd hx hb dX12_timed_27 ?_
        refine lv_istore_n (lv' := [(1, .int (x1 + (0 : Int32))), (0, .ref (gb g + x0)), (2, .int x2)]) hx hb dX12_timed_28 rfl hl (by decide) rfl (fun ls hl => ?_)
        refine lv_iinc (v := x2 + 1) (lv' := [(2, .int (x2 + 1)), (1, .int (x1 + (0 : Int32))), (0, .ref (gb g + x0))]) hx hb dX12_timed_29 hl (k := 2) rfl rfl (by decide) rfl (fun ls hl => ?_)
        refine lv_goto (tgt := 4) hx hb dX12_timed_32 (by decide) ?_
        exact ih σ3 x0 (x1 + (0 : Int32)) (x2 + 1) h hx0 H locs ls S (lv_sub hl [2, 1, 0] rfl)
set_option maxHeartbeats 4000000 in
set_option maxRecDepth 100000 in
theorem ok_X12_timed {l : Launch} {g : GL} {R : Nat → Nat → Nat} {L : Nat → Nat → Int64} {N : Nat} {σ : SI} {x0 : Nat} {r : (Int32 × SI)} (h : f_X12_timed N R σ x0 = some r) (hSh : ShR R) (hx0 : Ok 194 x0 12) : Ct l g 2 yX12_timed cX12_timed 3 (some .int) 194 194 0 0 [.ref (gb g + x0)] (mkS σ R L) (PI R L r) := by
  refine Met.ofW (cc := cX12_timed) (maxL := 3) (ret := (some .int)) (by decide) rfl ?_
  intro p e s m args below meth c s₁ B hml hv
  obtain ⟨rfl, hE, hLo, hWd⟩ := hv
  have hr : meth.sig.returnType = (some .int) := B.returns
  have C : Cx l g p s m meth c cX12_timed 3 RX12 := ⟨B.exec, B.bytes, hml, findClass_of_methodNamed B.named, hE, hLo, B.notSynchronized⟩
  have S : S2 g s σ R L s.heap [] := ⟨hWd, va_S.rf⟩
  have hx := C.1
  have hb := C.2.1
  have hl := lv_entry ([.ref (gb g + x0)]) (n := 3) (Nat.le_of_ble_eq_true rfl)
  rw [lg_entry_eq]
  generalize (lg_sl ([.ref (gb g + x0)]) ++ List.replicate (3 - (lg_sl ([.ref (gb g + x0)])).length) Slot.unset).toArray = ls at hl ⊢
  have hl : lv_has ls 3 [(0, .ref (gb g + x0))] := hl
  generalize hH : s.heap = H at S ⊢
  generalize hlc : ([] : List Loc) = locs at S ⊢
  rw [f_X12_timed] at h
  refine lv_iconst (v := (0 : Int32)) hx hb dX12_timed_0 (by decide) ?_
  refine lv_istore_n (lv' := [(1, .int (0 : Int32)), (0, .ref (gb g + x0))]) hx hb dX12_timed_1 rfl hl (by decide) rfl (fun ls hl => ?_)
  refine lv_iconst (v := (0 : Int32)) hx hb dX12_timed_2 (by decide) ?_
  refine lv_istore_n (lv' := [(2, .int (0 : Int32)), (1, .int (0 : Int32)), (0, .ref (gb g + x0))]) hx hb dX12_timed_3 rfl hl (by decide) rfl (fun ls hl => ?_)
  exact w_X12_timed_4 C hr hSh N σ x0 (0 : Int32) (0 : Int32) h hx0 H locs ls S (lv_sub hl [2, 1, 0] rfl)
theorem dX12_sirenOf_0 : decode cX12_sirenOf 0 = .ok (.aload_n 0, 1) := by decide +kernel
theorem dX12_sirenOf_1 : decode cX12_sirenOf 1 = .ok (.iload_n 1, 1) := by decide +kernel
theorem dX12_sirenOf_2 : decode cX12_sirenOf 2 = .ok (.invokevirtual 281, 3) := by decide +kernel
theorem dX12_sirenOf_5 : decode cX12_sirenOf 5 = .ok (.iload_n 2, 1) := by decide +kernel
theorem dX12_sirenOf_6 : decode cX12_sirenOf 6 = .ok (.ifCond .ne 8, 3) := by decide +kernel
theorem dX12_sirenOf_9 : decode cX12_sirenOf 9 = .ok (.bipush (-10), 2) := by decide +kernel
theorem dX12_sirenOf_11 : decode cX12_sirenOf 11 = .ok (.goto 19, 3) := by decide +kernel
theorem dX12_sirenOf_14 : decode cX12_sirenOf 14 = .ok (.iload_n 2, 1) := by decide +kernel
theorem dX12_sirenOf_15 : decode cX12_sirenOf 15 = .ok (.iconst 1, 1) := by decide +kernel
theorem dX12_sirenOf_16 : decode cX12_sirenOf 16 = .ok (.if_icmp .ne 7, 3) := by decide +kernel
theorem dX12_sirenOf_19 : decode cX12_sirenOf 19 = .ok (.iconst (-1), 1) := by decide +kernel
theorem dX12_sirenOf_20 : decode cX12_sirenOf 20 = .ok (.goto 10, 3) := by decide +kernel
theorem dX12_sirenOf_23 : decode cX12_sirenOf 23 = .ok (.aload_n 0, 1) := by decide +kernel
theorem dX12_sirenOf_24 : decode cX12_sirenOf 24 = .ok (.getfield 88, 3) := by decide +kernel
theorem dX12_sirenOf_27 : decode cX12_sirenOf 27 = .ok (.bipush 7, 2) := by decide +kernel
theorem dX12_sirenOf_29 : decode cX12_sirenOf 29 = .ok (.iaload, 1) := by decide +kernel
theorem dX12_sirenOf_30 : decode cX12_sirenOf 30 = .ok (.iadd, 1) := by decide +kernel
theorem dX12_sirenOf_31 : decode cX12_sirenOf 31 = .ok (.istore_n 3, 1) := by decide +kernel
theorem dX12_sirenOf_32 : decode cX12_sirenOf 32 = .ok (.bipush 100, 2) := by decide +kernel
theorem dX12_sirenOf_34 : decode cX12_sirenOf 34 = .ok (.iload_n 3, 1) := by decide +kernel
theorem dX12_sirenOf_35 : decode cX12_sirenOf 35 = .ok (.bipush 100, 2) := by decide +kernel
theorem dX12_sirenOf_37 : decode cX12_sirenOf 37 = .ok (.iadd, 1) := by decide +kernel
theorem dX12_sirenOf_38 : decode cX12_sirenOf 38 = .ok (.imul, 1) := by decide +kernel
theorem dX12_sirenOf_39 : decode cX12_sirenOf 39 = .ok (.bipush 10, 2) := by decide +kernel
theorem dX12_sirenOf_41 : decode cX12_sirenOf 41 = .ok (.iload_n 2, 1) := by decide +kernel
theorem dX12_sirenOf_42 : decode cX12_sirenOf 42 = .ok (.imul, 1) := by decide +kernel
theorem dX12_sirenOf_43 : decode cX12_sirenOf 43 = .ok (.iadd, 1) := by decide +kernel
theorem dX12_sirenOf_44 : decode cX12_sirenOf 44 = .ok (.iload_n 1, 1) := by decide +kernel
theorem dX12_sirenOf_45 : decode cX12_sirenOf 45 = .ok (.iadd, 1) := by decide +kernel
theorem dX12_sirenOf_46 : decode cX12_sirenOf 46 = .ok (.ireturn, 1) := by decide +kernel
def f_X12_sirenOf (N : Nat) (R : Nat → Nat → Nat) (σ : SI) (x0 : Nat) (x1 : Int32) (x2 : Int32) : Option (Int32 × SI) := bd (f_X12_time N R σ x0 x1) (fun a1 σ1 => if x2 = 0 then (some ((((100 : Int32) * ((a1 + (-10 : Int32)) + (100 : Int32))) + ((10 : Int32) * x2)) + x1, σ1)) else (if x2 = (1 : Int32) then (some ((((100 : Int32) * ((a1 + (-1 : Int32)) + (100 : Int32))) + ((10 : Int32) * x2)) + x1, σ1)) else (ck (7 : Int32) 417 (some ((((100 : Int32) * ((a1 + (σ1 (R x0 11) (7 : Int32).toNatClampNeg)) + (100 : Int32))) + ((10 : Int32) * x2)) + x1, σ1)))))
set_option maxHeartbeats 4000000 in
set_option maxRecDepth 100000 in
theorem ok_X12_sirenOf {l : Launch} {g : GL} {R : Nat → Nat → Nat} {L : Nat → Nat → Int64} {N : Nat} {σ : SI} {x0 : Nat} {x1 : Int32} {x2 : Int32} {r : (Int32 × SI)} (h : f_X12_sirenOf N R σ x0 x1 x2 = some r) (hSh : ShR R) (hx0 : Ok 194 x0 12) : Ct l g 2 yX12_sirenOf cX12_sirenOf 4 (some .int) 194 194 0 0 [.ref (gb g + x0), .int x1, .int x2] (mkS σ R L) (PI R L r) := by
  refine Met.ofW (cc := cX12_sirenOf) (maxL := 4) (ret := (some .int)) (by decide) rfl ?_
  intro p e s m args below meth c s₁ B hml hv
  obtain ⟨rfl, hE, hLo, hWd⟩ := hv
  have hr : meth.sig.returnType = (some .int) := B.returns
  have C : Cx l g p s m meth c cX12_sirenOf 4 RX12 := ⟨B.exec, B.bytes, hml, findClass_of_methodNamed B.named, hE, hLo, B.notSynchronized⟩
  have S : S2 g s σ R L s.heap [] := ⟨hWd, va_S.rf⟩
  have hx := C.1
  have hb := C.2.1
  have hl := lv_entry ([.ref (gb g + x0), .int x1, .int x2]) (n := 4) (Nat.le_of_ble_eq_true rfl)
  rw [lg_entry_eq]
  generalize (lg_sl ([.ref (gb g + x0), .int x1, .int x2]) ++ List.replicate (4 - (lg_sl ([.ref (gb g + x0), .int x1, .int x2])).length) Slot.unset).toArray = ls at hl ⊢
  have hl : lv_has ls 4 [(0, .ref (gb g + x0)), (1, .int x1), (2, .int x2)] := hl
  generalize hH : s.heap = H at S ⊢
  generalize hlc : ([] : List Loc) = locs at S ⊢
  rw [f_X12_sirenOf] at h
  refine lv_aload_n hx hb dX12_sirenOf_0 rfl (lv_at hl 0 rfl) ?_
  refine lv_iload_n hx hb dX12_sirenOf_1 rfl (lv_at hl 1 rfl) ?_
  obtain ⟨a1, σ1, hc1, h⟩ := bd_el h
  refine x_callVI C S KX12 hx0 (ok_X12_time (L := L) hc1 hSh hx0) ⟨cd_X12_time, ni_RX12, ml_RX12_281, in_X12_time, sl_X12_time⟩ ⟨by decide, by decide⟩ rfl ⟨by decide, by decide⟩ hl.1 rfl (Nat.le_of_ble_eq_true rfl) ⟨by decide, by decide⟩ dX12_sirenOf_2 (fun H locs S => ?_)
  refine lv_iload_n hx hb dX12_sirenOf_5 rfl (lv_at hl 2 rfl) ?_
  refine lv_if_ne (tgt := 14) hx hb dX12_sirenOf_6 (by decide) (fun c2 => ?_) (fun c2 => ?_)
  · have h := it_n c2 h
    refine lv_iload_n hx hb dX12_sirenOf_14 rfl (lv_at hl 2 rfl) ?_
    refine lv_iconst (v := (1 : Int32)) hx hb dX12_sirenOf_15 (by decide) ?_
    refine lv_icmp_ne (tgt := 23) hx hb dX12_sirenOf_16 (by decide) (fun c3 => ?_) (fun c3 => ?_)
    · have h := it_n c3 h
      refine lv_aload_n hx hb dX12_sirenOf_23 rfl (lv_at hl 0 rfl) ?_
      have hR4 : Ok 194 (R x0 11) 10417 := hSh x0 12 11 10417 hx0.1 rfl
      refine x_getR C S KX12 hx0 11 (by decide) rfl rfl fl_RX12_88 hR4 dX12_sirenOf_24 ?_
      refine lv_bipush (v := (7 : Int32)) hx hb dX12_sirenOf_27 (by decide) ?_
      obtain ⟨hi5, h⟩ := ck_el h
      refine x_iald (len := 417) C S (by decide) hR4 hi5 dX12_sirenOf_29 ?_
      refine lv_iadd hx hb dX12_sirenOf_30 ?_
      refine lv_istore_n (lv' := [(3, .int (a1 + (σ1 (R x0 11) (7 : Int32).toNatClampNeg))), (0, .ref (gb g + x0)), (1, .int x1), (2, .int x2)]) hx hb dX12_sirenOf_31 rfl hl (by decide) rfl (fun ls hl => ?_)
      refine lv_bipush (v := (100 : Int32)) hx hb dX12_sirenOf_32 (by decide) ?_
      refine lv_iload_n hx hb dX12_sirenOf_34 rfl (lv_at hl 0 rfl) ?_
      refine lv_bipush (v := (100 : Int32)) hx hb dX12_sirenOf_35 (by decide) ?_
      refine lv_iadd hx hb dX12_sirenOf_37 ?_
      refine lv_imul hx hb dX12_sirenOf_38 ?_
      refine lv_bipush (v := (10 : Int32)) hx hb dX12_sirenOf_39 (by decide) ?_
      refine lv_iload_n hx hb dX12_sirenOf_41 rfl (lv_at hl 3 rfl) ?_
      refine lv_imul hx hb dX12_sirenOf_42 ?_
      refine lv_iadd hx hb dX12_sirenOf_43 ?_
      refine lv_iload_n hx hb dX12_sirenOf_44 rfl (lv_at hl 2 rfl) ?_
      refine lv_iadd hx hb dX12_sirenOf_45 ?_
      exact x_iret C S hr h dX12_sirenOf_46
    · have h := it_p c3 h
      refine lv_iconst (v := (-1 : Int32)) hx hb dX12_sirenOf_19 (by decide) ?_
      refine lv_goto (tgt := 30) hx hb dX12_sirenOf_20 (by decide) ?_
      refine lv_iadd hx hb dX12_sirenOf_30 ?_
      refine lv_istore_n (lv' := [(3, .int (a1 + (-1 : Int32))), (0, .ref (gb g + x0)), (1, .int x1), (2, .int x2)]) hx hb dX12_sirenOf_31 rfl hl (by decide) rfl (fun ls hl => ?_)
      refine lv_bipush (v := (100 : Int32)) hx hb dX12_sirenOf_32 (by decide) ?_
      refine lv_iload_n hx hb dX12_sirenOf_34 rfl (lv_at hl 0 rfl) ?_
      refine lv_bipush (v := (100 : Int32)) hx hb dX12_sirenOf_35 (by decide) ?_
      refine lv_iadd hx hb dX12_sirenOf_37 ?_
      refine lv_imul hx hb dX12_sirenOf_38 ?_
      refine lv_bipush (v := (10 : Int32)) hx hb dX12_sirenOf_39 (by decide) ?_
      refine lv_iload_n hx hb dX12_sirenOf_41 rfl (lv_at hl 3 rfl) ?_
      refine lv_imul hx hb dX12_sirenOf_42 ?_
      refine lv_iadd hx hb dX12_sirenOf_43 ?_
      refine lv_iload_n hx hb dX12_sirenOf_44 rfl (lv_at hl 2 rfl) ?_
      refine lv_iadd hx hb dX12_sirenOf_45 ?_
      exact x_iret C S hr h dX12_sirenOf_46
  · have h := it_p c2 h
    refine lv_bipush (v := (-10 : Int32)) hx hb dX12_sirenOf_9 (by decide) ?_
    refine lv_goto (tgt := 30) hx hb dX12_sirenOf_11 (by decide) ?_
    refine lv_iadd hx hb dX12_sirenOf_30 ?_
    refine lv_istore_n (lv' := [(3, .int (a1 + (-10 : Int32))), (0, .ref (gb g + x0)), (1, .int x1), (2, .int x2)]) hx hb dX12_sirenOf_31 rfl hl (by decide) rfl (fun ls hl => ?_)
    refine lv_bipush (v := (100 : Int32)) hx hb dX12_sirenOf_32 (by decide) ?_
    refine lv_iload_n hx hb dX12_sirenOf_34 rfl (lv_at hl 0 rfl) ?_
    refine lv_bipush (v := (100 : Int32)) hx hb dX12_sirenOf_35 (by decide) ?_
    refine lv_iadd hx hb dX12_sirenOf_37 ?_
    refine lv_imul hx hb dX12_sirenOf_38 ?_
    refine lv_bipush (v := (10 : Int32)) hx hb dX12_sirenOf_39 (by decide) ?_
    refine lv_iload_n hx hb dX12_sirenOf_41 rfl (lv_at hl 3 rfl) ?_
    refine lv_imul hx hb dX12_sirenOf_42 ?_
    refine lv_iadd hx hb dX12_sirenOf_43 ?_
    refine lv_iload_n hx hb dX12_sirenOf_44 rfl (lv_at hl 2 rfl) ?_
    refine lv_iadd hx hb dX12_sirenOf_45 ?_
    exact x_iret C S hr h dX12_sirenOf_46
theorem dX12_before_0 : decode cX12_before 0 = .ok (.iconst 0, 1) := by decide +kernel
theorem dX12_before_1 : decode cX12_before 1 = .ok (.istore_n 2, 1) := by decide +kernel
theorem dX12_before_2 : decode cX12_before 2 = .ok (.iconst 0, 1) := by decide +kernel
theorem dX12_before_3 : decode cX12_before 3 = .ok (.istore_n 3, 1) := by decide +kernel
theorem dX12_before_4 : decode cX12_before 4 = .ok (.iload_n 3, 1) := by decide +kernel
theorem dX12_before_5 : decode cX12_before 5 = .ok (.aload_n 0, 1) := by decide +kernel
theorem dX12_before_6 : decode cX12_before 6 = .ok (.invokevirtual 142, 3) := by decide +kernel
theorem dX12_before_9 : decode cX12_before 9 = .ok (.if_icmp .ge 52, 3) := by decide +kernel
theorem dX12_before_12 : decode cX12_before 12 = .ok (.iconst 0, 1) := by decide +kernel
theorem dX12_before_13 : decode cX12_before 13 = .ok (.istore 4, 2) := by decide +kernel
theorem dX12_before_15 : decode cX12_before 15 = .ok (.iload 4, 2) := by decide +kernel
theorem dX12_before_17 : decode cX12_before 17 = .ok (.iconst 3, 1) := by decide +kernel
theorem dX12_before_18 : decode cX12_before 18 = .ok (.if_icmp .ge 37, 3) := by decide +kernel
theorem dX12_before_21 : decode cX12_before 21 = .ok (.iload_n 2, 1) := by decide +kernel
theorem dX12_before_22 : decode cX12_before 22 = .ok (.aload_n 0, 1) := by decide +kernel
theorem dX12_before_23 : decode cX12_before 23 = .ok (.iload_n 3, 1) := by decide +kernel
theorem dX12_before_24 : decode cX12_before 24 = .ok (.invokevirtual 281, 3) := by decide +kernel
theorem dX12_before_27 : decode cX12_before 27 = .ok (.iconst (-1), 1) := by decide +kernel
theorem dX12_before_28 : decode cX12_before 28 = .ok (.if_icmp .eq 18, 3) := by decide +kernel
theorem dX12_before_31 : decode cX12_before 31 = .ok (.aload_n 0, 1) := by decide +kernel
theorem dX12_before_32 : decode cX12_before 32 = .ok (.iload_n 3, 1) := by decide +kernel
theorem dX12_before_33 : decode cX12_before 33 = .ok (.iload 4, 2) := by decide +kernel
theorem dX12_before_35 : decode cX12_before 35 = .ok (.invokevirtual 333, 3) := by decide +kernel
theorem dX12_before_38 : decode cX12_before 38 = .ok (.iload_n 1, 1) := by decide +kernel
theorem dX12_before_39 : decode cX12_before 39 = .ok (.if_icmp .ge 7, 3) := by decide +kernel
theorem dX12_before_42 : decode cX12_before 42 = .ok (.iconst 1, 1) := by decide +kernel
theorem dX12_before_43 : decode cX12_before 43 = .ok (.goto 4, 3) := by decide +kernel
theorem dX12_before_46 : decode cX12_before 46 = .ok (.iconst 0, 1) := by decide +kernel
theorem dX12_before_47 : decode cX12_before 47 = .ok (.iadd, 1) := by decide +kernel
theorem dX12_before_48 : decode cX12_before 48 = .ok (.istore_n 2, 1) := by decide +kernel
theorem dX12_before_49 : decode cX12_before 49 = .ok (.iinc 4 1, 3) := by decide +kernel
theorem dX12_before_52 : decode cX12_before 52 = .ok (.goto (-37), 3) := by decide +kernel
theorem dX12_before_55 : decode cX12_before 55 = .ok (.iinc 3 1, 3) := by decide +kernel
theorem dX12_before_58 : decode cX12_before 58 = .ok (.goto (-54), 3) := by decide +kernel
theorem dX12_before_61 : decode cX12_before 61 = .ok (.iload_n 2, 1) := by decide +kernel
theorem dX12_before_62 : decode cX12_before 62 = .ok (.ireturn, 1) := by decide +kernel
def f_X12_before_15 (N : Nat) (R : Nat → Nat → Nat) (k4 : SI → Nat → Int32 → Int32 → Int32 → Option (Int32 × SI)) : Nat → SI → Nat → Int32 → Int32 → Int32 → Int32 → Option (Int32 × SI)
  | 0, _, _, _, _, _, _ => none
  | n + 1, σ, x0, x1, x2, x3, x4 => if (3 : Int32) ≤ x4 then (k4 σ x0 x1 x2 (x3 + 1)) else (bd (f_X12_time N R σ x0 x3) (fun a4 σ4 => if a4 = (-1 : Int32) then (f_X12_before_15 N R k4 n σ4 x0 x1 (x2 + (0 : Int32)) x3 (x4 + 1)) else (bd (f_X12_sirenOf N R σ4 x0 x3 x4) (fun a6 σ6 => if x1 ≤ a6 then (f_X12_before_15 N R k4 n σ6 x0 x1 (x2 + (0 : Int32)) x3 (x4 + 1)) else (f_X12_before_15 N R k4 n σ6 x0 x1 (x2 + (1 : Int32)) x3 (x4 + 1))))))
def f_X12_before_4 (N : Nat) (R : Nat → Nat → Nat) : Nat → SI → Nat → Int32 → Int32 → Int32 → Option (Int32 × SI)
  | 0, _, _, _, _, _ => none
  | n + 1, σ, x0, x1, x2, x3 => bd (f_X12_blasts N R σ x0) (fun a1 σ1 => if a1 ≤ x3 then (some (x2, σ1)) else (f_X12_before_15 N R (fun σ x0 x1 x2 x3 => f_X12_before_4 N R n σ x0 x1 x2 x3) N σ1 x0 x1 x2 x3 (0 : Int32)))
def f_X12_before (N : Nat) (R : Nat → Nat → Nat) (σ : SI) (x0 : Nat) (x1 : Int32) : Option (Int32 × SI) := f_X12_before_4 N R N σ x0 x1 (0 : Int32) (0 : Int32)
set_option maxHeartbeats 4000000 in
set_option maxRecDepth 100000 in
theorem w_X12_before_15 {l : Launch} {g : GL} {p : Program} {e : Jvm.Env} {s : State} {m : MethodId} {args : Array Value} {below : List Frame} {meth : Method} {c : Code} {R : Nat → Nat → Nat} {L : Nat → Nat → Int64} {r : (Int32 × SI)} {N : Nat} {k4 : SI → Nat → Int32 → Int32 → Int32 → Option (Int32 × SI)} (C : Cx l g p s m meth c cX12_before 5 RX12) (hr : meth.sig.returnType = (some .int)) (hSh : ShR R) (hk4 : ∀ (σ : SI) (x0 : Nat) (x1 : Int32) (x2 : Int32) (x3 : Int32), k4 σ x0 x1 x2 x3 = some r → Ok 194 x0 12 → ∀ (H : Heap) (locs : List Loc) (ls : Array Slot), S2 g s σ R L H locs → lv_has ls 5 [(0, .ref (gb g + x0)), (1, .int x1), (2, .int x2), (3, .int x3)] → W p l e (rmd 3 0 0) s m args below meth c H locs 0 0 (MQ below (Qg g 194 (PI R L r)) args s 0 0 (gA g)) (F0 m 4 ls [])) : ∀ (n : Nat) (σ : SI) (x0 : Nat) (x1 : Int32) (x2 : Int32) (x3 : Int32) (x4 : Int32), f_X12_before_15 N R k4 n σ x0 x1 x2 x3 x4 = some r → Ok 194 x0 12 → ∀ (H : Heap) (locs : List Loc) (ls : Array Slot), S2 g s σ R L H locs → lv_has ls 5 [(0, .ref (gb g + x0)), (1, .int x1), (2, .int x2), (3, .int x3), (4, .int x4)] → W p l e (rmd 3 0 0) s m args below meth c H locs 0 0 (MQ below (Qg g 194 (PI R L r)) args s 0 0 (gA g)) (F0 m 15 ls []) := by
  have hx := C.1
  have hb := C.2.1
  intro n
  induction n with
  | zero =>
    intro σ x0 x1 x2 x3 x4 h
    cases (show (none : Option (Int32 × SI)) = some r from h)
  | succ n ih =>
    intro σ x0 x1 x2 x3 x4 h hx0 H locs ls S hl
    rw [f_X12_before_15] at h
    refine lv_iload hx hb dX12_before_15 (lv_at hl 4 rfl) ?_
    refine lv_iconst (v := (3 : Int32)) hx hb dX12_before_17 (by decide) ?_
    refine lv_icmp_ge (tgt := 55) hx hb dX12_before_18 (by decide) (fun c3 => ?_) (fun c3 => ?_)
    · have h := it_p c3 h
      refine lv_iinc (v := x3 + 1) (lv' := [(3, .int (x3 + 1)), (0, .ref (gb g + x0)), (1, .int x1), (2, .int x2), (4, .int x4)]) hx hb dX12_before_55 hl (k := 3) rfl rfl (by decide) rfl (fun ls hl => ?_)
      refine lv_goto (tgt := 4) hx hb dX12_before_58 (by decide) ?_
      exact hk4 σ x0 x1 x2 (x3 + 1) h hx0 H locs ls S (lv_sub hl [1, 2, 3, 0] rfl)
    · have h := it_n c3 h
      refine lv_iload_n hx hb dX12_before_21 rfl (lv_at hl 2 rfl) ?_
      refine lv_aload_n hx hb dX12_before_22 rfl (lv_at hl 0 rfl) ?_
      refine lv_iload_n hx hb dX12_before_23 rfl (lv_at hl 3 rfl) ?_
      obtain ⟨a4, σ4, hc4, h⟩ := bd_el h
      refine x_callVI C S KX12 hx0 (ok_X12_time (L := L) hc4 hSh hx0) ⟨cd_X12_time, ni_RX12, ml_RX12_281, in_X12_time, sl_X12_time⟩ ⟨by decide, by decide⟩ rfl ⟨by decide, by decide⟩ hl.1 rfl (Nat.le_of_ble_eq_true rfl) ⟨by decide, by decide⟩ dX12_before_24 (fun H locs S => ?_)
      refine lv_iconst (v := (-1 : Int32)) hx hb dX12_before_27 (by decide) ?_
      refine lv_icmp_eq (tgt := 46) hx hb dX12_before_28 (by decide) (fun c5 => ?_) (fun c5 => ?_)
      · have h := it_p c5 h
        refine lv_iconst (v := (0 : Int32)) hx hb dX12_before_46 (by decide) ?_
        refine lv_iadd hx hb dX12_before_47 ?_
        refine lv_istore_n (lv' := [(2, .int (x2 + (0 : Int32))), (0, .ref (gb g + x0)), (1, .int x1), (3, .int x3), (4, .int x4)]) hx hb dX12_before_48 rfl hl (by decide) rfl (fun ls hl => ?_)
        refine lv_iinc (v := x4 + 1) (lv' := [(4, .int (x4 + 1)), (2, .int (x2 + (0 : Int32))), (0, .ref (gb g + x0)), (1, .int x1), (3, .int x3)]) hx hb dX12_before_49 hl (k := 4) rfl rfl (by decide) rfl (fun ls hl => ?_)
        refine lv_goto (tgt := 15) hx hb dX12_before_52 (by decide) ?_
        exact ih σ4 x0 x1 (x2 + (0 : Int32)) x3 (x4 + 1) h hx0 H locs ls S (lv_sub hl [2, 3, 1, 4, 0] rfl)
      · have h := it_n c5 h
        refine lv_aload_n hx hb dX12_before_31 rfl (lv_at hl 0 rfl) ?_
        refine lv_iload_n hx hb dX12_before_32 rfl (lv_at hl 3 rfl) ?_
        refine lv_iload hx hb dX12_before_33 (lv_at hl 4 rfl) ?_
        obtain ⟨a6, σ6, hc6, h⟩ := bd_el h
        refine x_callVI C S KX12 hx0 (ok_X12_sirenOf (L := L) hc6 hSh hx0) ⟨cd_X12_sirenOf, ni_RX12, ml_RX12_333, in_X12_sirenOf, sl_X12_sirenOf⟩ ⟨by decide, by decide⟩ rfl ⟨by decide, by decide⟩ hl.1 rfl (Nat.le_of_ble_eq_true rfl) ⟨by decide, by decide⟩ dX12_before_35 (fun H locs S => ?_)
        refine lv_iload_n hx hb dX12_before_38 rfl (lv_at hl 1 rfl) ?_
        refine lv_icmp_ge (tgt := 46) hx hb dX12_before_39 (by decide) (fun c7 => ?_) (fun c7 => ?_)
        · have h := it_p c7 h
          refine lv_iconst (v := (0 : Int32)) hx hb dX12_before_46 (by decide) ?_
          refine lv_iadd hx hb dX12_before_47 ?_
          refine lv_istore_n (lv' := [(2, .int (x2 + (0 : Int32))), (0, .ref (gb g + x0)), (1, .int x1), (3, .int x3), (4, .int x4)]) hx hb dX12_before_48 rfl hl (by decide) rfl (fun ls hl => ?_)
          refine lv_iinc (v := x4 + 1) (lv' := [(4, .int (x4 + 1)), (2, .int (x2 + (0 : Int32))), (0, .ref (gb g + x0)), (1, .int x1), (3, .int x3)]) hx hb dX12_before_49 hl (k := 4) rfl rfl (by decide) rfl (fun ls hl => ?_)
          refine lv_goto (tgt := 15) hx hb dX12_before_52 (by decide) ?_
          exact ih σ6 x0 x1 (x2 + (0 : Int32)) x3 (x4 + 1) h hx0 H locs ls S (lv_sub hl [2, 3, 1, 4, 0] rfl)
        · have h := it_n c7 h
          refine lv_iconst (v := (1 : Int32)) hx hb dX12_before_42 (by decide) ?_
          refine lv_goto (tgt := 47) hx hb dX12_before_43 (by decide) ?_
          refine lv_iadd hx hb dX12_before_47 ?_
          refine lv_istore_n (lv' := [(2, .int (x2 + (1 : Int32))), (0, .ref (gb g + x0)), (1, .int x1), (3, .int x3), (4, .int x4)]) hx hb dX12_before_48 rfl hl (by decide) rfl (fun ls hl => ?_)
          refine lv_iinc (v := x4 + 1) (lv' := [(4, .int (x4 + 1)), (2, .int (x2 + (1 : Int32))), (0, .ref (gb g + x0)), (1, .int x1), (3, .int x3)]) hx hb dX12_before_49 hl (k := 4) rfl rfl (by decide) rfl (fun ls hl => ?_)
          refine lv_goto (tgt := 15) hx hb dX12_before_52 (by decide) ?_
          exact ih σ6 x0 x1 (x2 + (1 : Int32)) x3 (x4 + 1) h hx0 H locs ls S (lv_sub hl [2, 3, 1, 4, 0] rfl)
set_option maxHeartbeats 4000000 in
set_option maxRecDepth 100000 in
theorem w_X12_before_4 {l : Launch} {g : GL} {p : Program} {e : Jvm.Env} {s : State} {m : MethodId} {args : Array Value} {below : List Frame} {meth : Method} {c : Code} {R : Nat → Nat → Nat} {L : Nat → Nat → Int64} {r : (Int32 × SI)} {N : Nat} (C : Cx l g p s m meth c cX12_before 5 RX12) (hr : meth.sig.returnType = (some .int)) (hSh : ShR R) : ∀ (n : Nat) (σ : SI) (x0 : Nat) (x1 : Int32) (x2 : Int32) (x3 : Int32), f_X12_before_4 N R n σ x0 x1 x2 x3 = some r → Ok 194 x0 12 → ∀ (H : Heap) (locs : List Loc) (ls : Array Slot), S2 g s σ R L H locs → lv_has ls 5 [(0, .ref (gb g + x0)), (1, .int x1), (2, .int x2), (3, .int x3)] → W p l e (rmd 3 0 0) s m args below meth c H locs 0 0 (MQ below (Qg g 194 (PI R L r)) args s 0 0 (gA g)) (F0 m 4 ls []) := by
  have hx := C.1
  have hb := C.2.1
  intro n
  induction n with
  | zero =>
    intro σ x0 x1 x2 x3 h
    cases (show (none : Option (Int32 × SI)) = some r from h)
  | succ n ih =>
    intro σ x0 x1 x2 x3 h hx0 H locs ls S hl
    rw [f_X12_before_4] at h
    refine lv_iload_n hx hb dX12_before_4 rfl (lv_at hl 3 rfl) ?_
    refine lv_aload_n hx hb dX12_before_5 rfl (lv_at hl 0 rfl) ?_
    obtain ⟨a1, σ1, hc1, h⟩ := bd_el h
    refine x_callVI C S KX12 hx0 (ok_X12_blasts (L := L) hc1 hSh hx0) ⟨cd_X12_blasts, ni_RX12, ml_RX12_142, in_X12_blasts, sl_X12_blasts⟩ ⟨by decide, by decide⟩ rfl ⟨by decide, by decide⟩ hl.1 rfl (Nat.le_of_ble_eq_true rfl) ⟨by decide, by decide⟩ dX12_before_6 (fun H locs S => ?_)
    refine lv_icmp_ge (tgt := 61) hx hb dX12_before_9 (by decide) (fun c2 => ?_) (fun c2 => ?_)
    · have h := it_p c2 h
      refine lv_iload_n hx hb dX12_before_61 rfl (lv_at hl 2 rfl) ?_
      exact x_iret C S hr h dX12_before_62
    · have h := it_n c2 h
      refine lv_iconst (v := (0 : Int32)) hx hb dX12_before_12 (by decide) ?_
      refine lv_istore (lv' := [(4, .int (0 : Int32)), (0, .ref (gb g + x0)), (1, .int x1), (2, .int x2), (3, .int x3)]) hx hb dX12_before_13 hl (by decide) rfl (fun ls hl => ?_)
      exact w_X12_before_15 C hr hSh ih N σ1 x0 x1 x2 x3 (0 : Int32) h hx0 H locs ls S (lv_sub hl [1, 2, 3, 4, 0] rfl)
set_option maxHeartbeats 4000000 in
set_option maxRecDepth 100000 in
theorem ok_X12_before {l : Launch} {g : GL} {R : Nat → Nat → Nat} {L : Nat → Nat → Int64} {N : Nat} {σ : SI} {x0 : Nat} {x1 : Int32} {r : (Int32 × SI)} (h : f_X12_before N R σ x0 x1 = some r) (hSh : ShR R) (hx0 : Ok 194 x0 12) : Ct l g 3 yX12_before cX12_before 5 (some .int) 194 194 0 0 [.ref (gb g + x0), .int x1] (mkS σ R L) (PI R L r) := by
  refine Met.ofW (cc := cX12_before) (maxL := 5) (ret := (some .int)) (by decide) rfl ?_
  intro p e s m args below meth c s₁ B hml hv
  obtain ⟨rfl, hE, hLo, hWd⟩ := hv
  have hr : meth.sig.returnType = (some .int) := B.returns
  have C : Cx l g p s m meth c cX12_before 5 RX12 := ⟨B.exec, B.bytes, hml, findClass_of_methodNamed B.named, hE, hLo, B.notSynchronized⟩
  have S : S2 g s σ R L s.heap [] := ⟨hWd, va_S.rf⟩
  have hx := C.1
  have hb := C.2.1
  have hl := lv_entry ([.ref (gb g + x0), .int x1]) (n := 5) (Nat.le_of_ble_eq_true rfl)
  rw [lg_entry_eq]
  generalize (lg_sl ([.ref (gb g + x0), .int x1]) ++ List.replicate (5 - (lg_sl ([.ref (gb g + x0), .int x1])).length) Slot.unset).toArray = ls at hl ⊢
  have hl : lv_has ls 5 [(0, .ref (gb g + x0)), (1, .int x1)] := hl
  generalize hH : s.heap = H at S ⊢
  generalize hlc : ([] : List Loc) = locs at S ⊢
  rw [f_X12_before] at h
  refine lv_iconst (v := (0 : Int32)) hx hb dX12_before_0 (by decide) ?_
  refine lv_istore_n (lv' := [(2, .int (0 : Int32)), (0, .ref (gb g + x0)), (1, .int x1)]) hx hb dX12_before_1 rfl hl (by decide) rfl (fun ls hl => ?_)
  refine lv_iconst (v := (0 : Int32)) hx hb dX12_before_2 (by decide) ?_
  refine lv_istore_n (lv' := [(3, .int (0 : Int32)), (2, .int (0 : Int32)), (0, .ref (gb g + x0)), (1, .int x1)]) hx hb dX12_before_3 rfl hl (by decide) rfl (fun ls hl => ?_)
  exact w_X12_before_4 C hr hSh N σ x0 x1 (0 : Int32) (0 : Int32) h hx0 H locs ls S (lv_sub hl [2, 3, 1, 0] rfl)
theorem dX12_noSiren_0 : decode cX12_noSiren 0 = .ok (.aload_n 0, 1) := by decide +kernel
theorem dX12_noSiren_1 : decode cX12_noSiren 1 = .ok (.iload_n 1, 1) := by decide +kernel
theorem dX12_noSiren_2 : decode cX12_noSiren 2 = .ok (.iconst 0, 1) := by decide +kernel
theorem dX12_noSiren_3 : decode cX12_noSiren 3 = .ok (.iconst 3, 1) := by decide +kernel
theorem dX12_noSiren_4 : decode cX12_noSiren 4 = .ok (.aload_n 0, 1) := by decide +kernel
theorem dX12_noSiren_5 : decode cX12_noSiren 5 = .ok (.invokevirtual 339, 3) := by decide +kernel
theorem dX12_noSiren_8 : decode cX12_noSiren 8 = .ok (.imul, 1) := by decide +kernel
theorem dX12_noSiren_9 : decode cX12_noSiren 9 = .ok (.iconst 1, 1) := by decide +kernel
theorem dX12_noSiren_10 : decode cX12_noSiren 10 = .ok (.isub, 1) := by decide +kernel
theorem dX12_noSiren_11 : decode cX12_noSiren 11 = .ok (.invokestatic 71, 3) := by decide +kernel
theorem dX12_noSiren_14 : decode cX12_noSiren 14 = .ok (.ifCond .ne 7, 3) := by decide +kernel
theorem dX12_noSiren_17 : decode cX12_noSiren 17 = .ok (.iconst 1, 1) := by decide +kernel
theorem dX12_noSiren_18 : decode cX12_noSiren 18 = .ok (.goto 4, 3) := by decide +kernel
theorem dX12_noSiren_21 : decode cX12_noSiren 21 = .ok (.iconst 0, 1) := by decide +kernel
theorem dX12_noSiren_22 : decode cX12_noSiren 22 = .ok (.iconst 1, 1) := by decide +kernel
theorem dX12_noSiren_23 : decode cX12_noSiren 23 = .ok (.invokevirtual 185, 3) := by decide +kernel
theorem dX12_noSiren_26 : decode cX12_noSiren 26 = .ok (.ireturn, 1) := by decide +kernel
def f_X12_noSiren (N : Nat) (R : Nat → Nat → Nat) (σ : SI) (x0 : Nat) (x1 : Int32) : Option (Int32 × SI) := bd (f_X12_timed N R σ x0) (fun a1 σ1 => bd (f_X12_in N R σ1 x1 (0 : Int32) (((3 : Int32) * a1) - (1 : Int32))) (fun a2 σ2 => if a2 = 0 then (bd (f_X12_throwsIf N R σ2 x0 (1 : Int32) (1 : Int32)) (fun a6 σ6 => cb a6 (some (a6, σ6)))) else (bd (f_X12_throwsIf N R σ2 x0 (0 : Int32) (1 : Int32)) (fun a4 σ4 => cb a4 (some (a4, σ4))))))
set_option maxHeartbeats 4000000 in
set_option maxRecDepth 100000 in
theorem ok_X12_noSiren {l : Launch} {g : GL} {R : Nat → Nat → Nat} {L : Nat → Nat → Int64} {N : Nat} {σ : SI} {x0 : Nat} {x1 : Int32} {r : (Int32 × SI)} (h : f_X12_noSiren N R σ x0 x1 = some r) (hSh : ShR R) (hx0 : Ok 194 x0 12) : Ct l g 3 yX12_noSiren cX12_noSiren 2 (some .boolean) 194 194 0 0 [.ref (gb g + x0), .int x1] (mkS σ R L) (PI R L r) := by
  refine Met.ofW (cc := cX12_noSiren) (maxL := 2) (ret := (some .boolean)) (by decide) rfl ?_
  intro p e s m args below meth c s₁ B hml hv
  obtain ⟨rfl, hE, hLo, hWd⟩ := hv
  have hr : meth.sig.returnType = (some .boolean) := B.returns
  have C : Cx l g p s m meth c cX12_noSiren 2 RX12 := ⟨B.exec, B.bytes, hml, findClass_of_methodNamed B.named, hE, hLo, B.notSynchronized⟩
  have S : S2 g s σ R L s.heap [] := ⟨hWd, va_S.rf⟩
  have hx := C.1
  have hb := C.2.1
  have hl := lv_entry ([.ref (gb g + x0), .int x1]) (n := 2) (Nat.le_of_ble_eq_true rfl)
  rw [lg_entry_eq]
  generalize (lg_sl ([.ref (gb g + x0), .int x1]) ++ List.replicate (2 - (lg_sl ([.ref (gb g + x0), .int x1])).length) Slot.unset).toArray = ls at hl ⊢
  have hl : lv_has ls 2 [(0, .ref (gb g + x0)), (1, .int x1)] := hl
  generalize hH : s.heap = H at S ⊢
  generalize hlc : ([] : List Loc) = locs at S ⊢
  rw [f_X12_noSiren] at h
  refine lv_aload_n hx hb dX12_noSiren_0 rfl (lv_at hl 0 rfl) ?_
  refine lv_iload_n hx hb dX12_noSiren_1 rfl (lv_at hl 1 rfl) ?_
  refine lv_iconst (v := (0 : Int32)) hx hb dX12_noSiren_2 (by decide) ?_
  refine lv_iconst (v := (3 : Int32)) hx hb dX12_noSiren_3 (by decide) ?_
  refine lv_aload_n hx hb dX12_noSiren_4 rfl (lv_at hl 0 rfl) ?_
  obtain ⟨a1, σ1, hc1, h⟩ := bd_el h
  refine x_callVI C S KX12 hx0 (ok_X12_timed (L := L) hc1 hSh hx0) ⟨cd_X12_timed, ni_RX12, ml_RX12_339, in_X12_timed, sl_X12_timed⟩ ⟨by decide, by decide⟩ rfl ⟨by decide, by decide⟩ hl.1 rfl (Nat.le_of_ble_eq_true rfl) ⟨by decide, by decide⟩ dX12_noSiren_5 (fun H locs S => ?_)
  refine lv_imul hx hb dX12_noSiren_8 ?_
  refine lv_iconst (v := (1 : Int32)) hx hb dX12_noSiren_9 (by decide) ?_
  refine lv_isub hx hb dX12_noSiren_10 ?_
  obtain ⟨a2, σ2, hc2, h⟩ := bd_el h
  refine x_callSI C S (ok_X12_in (L := L) hc2 hSh) ⟨cd_X12_in, ni_RX12, ml_RX12_71, st_X12_in⟩ ⟨by decide, by decide⟩ rfl ⟨by decide, by decide⟩ hl.1 rfl (Nat.le_of_ble_eq_true rfl) ⟨by decide, by decide⟩ dX12_noSiren_11 (fun H locs S => ?_)
  refine lv_if_ne (tgt := 21) hx hb dX12_noSiren_14 (by decide) (fun c3 => ?_) (fun c3 => ?_)
  · have h := it_n c3 h
    refine lv_iconst (v := (0 : Int32)) hx hb dX12_noSiren_21 (by decide) ?_
    refine lv_iconst (v := (1 : Int32)) hx hb dX12_noSiren_22 (by decide) ?_
    obtain ⟨a4, σ4, hc4, h⟩ := bd_el h
    refine x_callVI C S KX12 hx0 (ok_X12_throwsIf (L := L) hc4 hSh hx0) ⟨cd_X12_throwsIf, ni_RX12, ml_RX12_185, in_X12_throwsIf, sl_X12_throwsIf⟩ ⟨by decide, by decide⟩ rfl ⟨by decide, by decide⟩ hl.1 rfl (Nat.le_of_ble_eq_true rfl) ⟨by decide, by decide⟩ dX12_noSiren_23 (fun H locs S => ?_)
    obtain ⟨hb5, h⟩ := cb_el h
    exact x_zret C S hr hb5 h dX12_noSiren_26
  · have h := it_p c3 h
    refine lv_iconst (v := (1 : Int32)) hx hb dX12_noSiren_17 (by decide) ?_
    refine lv_goto (tgt := 22) hx hb dX12_noSiren_18 (by decide) ?_
    refine lv_iconst (v := (1 : Int32)) hx hb dX12_noSiren_22 (by decide) ?_
    obtain ⟨a6, σ6, hc6, h⟩ := bd_el h
    refine x_callVI C S KX12 hx0 (ok_X12_throwsIf (L := L) hc6 hSh hx0) ⟨cd_X12_throwsIf, ni_RX12, ml_RX12_185, in_X12_throwsIf, sl_X12_throwsIf⟩ ⟨by decide, by decide⟩ rfl ⟨by decide, by decide⟩ hl.1 rfl (Nat.le_of_ble_eq_true rfl) ⟨by decide, by decide⟩ dX12_noSiren_23 (fun H locs S => ?_)
    obtain ⟨hb7, h⟩ := cb_el h
    exact x_zret C S hr hb7 h dX12_noSiren_26
theorem dX12_sirenCount_0 : decode cX12_sirenCount 0 = .ok (.aload_n 0, 1) := by decide +kernel
theorem dX12_sirenCount_1 : decode cX12_sirenCount 1 = .ok (.iconst 0, 1) := by decide +kernel
theorem dX12_sirenCount_2 : decode cX12_sirenCount 2 = .ok (.putfield 3, 3) := by decide +kernel
theorem dX12_sirenCount_5 : decode cX12_sirenCount 5 = .ok (.iconst 3, 1) := by decide +kernel
theorem dX12_sirenCount_6 : decode cX12_sirenCount 6 = .ok (.aload_n 0, 1) := by decide +kernel
theorem dX12_sirenCount_7 : decode cX12_sirenCount 7 = .ok (.invokevirtual 339, 3) := by decide +kernel
theorem dX12_sirenCount_10 : decode cX12_sirenCount 10 = .ok (.imul, 1) := by decide +kernel
theorem dX12_sirenCount_11 : decode cX12_sirenCount 11 = .ok (.ireturn, 1) := by decide +kernel
def f_X12_sirenCount (N : Nat) (R : Nat → Nat → Nat) (σ : SI) (x0 : Nat) : Option (Int32 × SI) := sq (up σ x0 0 (0 : Int32)) (fun σ1 => bd (f_X12_timed N R σ1 x0) (fun a2 σ2 => some ((3 : Int32) * a2, σ2)))
set_option maxHeartbeats 4000000 in
set_option maxRecDepth 100000 in
theorem ok_X12_sirenCount {l : Launch} {g : GL} {R : Nat → Nat → Nat} {L : Nat → Nat → Int64} {N : Nat} {σ : SI} {x0 : Nat} {r : (Int32 × SI)} (h : f_X12_sirenCount N R σ x0 = some r) (hSh : ShR R) (hx0 : Ok 194 x0 12) : Ct l g 3 yX12_sirenCount cX12_sirenCount 1 (some .int) 194 194 0 0 [.ref (gb g + x0)] (mkS σ R L) (PI R L r) := by
  refine Met.ofW (cc := cX12_sirenCount) (maxL := 1) (ret := (some .int)) (by decide) rfl ?_
  intro p e s m args below meth c s₁ B hml hv
  obtain ⟨rfl, hE, hLo, hWd⟩ := hv
  have hr : meth.sig.returnType = (some .int) := B.returns
  have C : Cx l g p s m meth c cX12_sirenCount 1 RX12 := ⟨B.exec, B.bytes, hml, findClass_of_methodNamed B.named, hE, hLo, B.notSynchronized⟩
  have S : S2 g s σ R L s.heap [] := ⟨hWd, va_S.rf⟩
  have hx := C.1
  have hb := C.2.1
  have hl := lv_entry ([.ref (gb g + x0)]) (n := 1) (Nat.le_of_ble_eq_true rfl)
  rw [lg_entry_eq]
  generalize (lg_sl ([.ref (gb g + x0)]) ++ List.replicate (1 - (lg_sl ([.ref (gb g + x0)])).length) Slot.unset).toArray = ls at hl ⊢
  have hl : lv_has ls 1 [(0, .ref (gb g + x0))] := hl
  generalize hH : s.heap = H at S ⊢
  generalize hlc : ([] : List Loc) = locs at S ⊢
  rw [f_X12_sirenCount] at h
  refine lv_aload_n hx hb dX12_sirenCount_0 rfl (lv_at hl 0 rfl) ?_
  refine lv_iconst (v := (0 : Int32)) hx hb dX12_sirenCount_1 (by decide) ?_
  obtain ⟨σ1, hs1, h⟩ := sq_el h
  refine x_putI C S KX12 hx0 0 (by decide) rfl rfl rfl ⟨rfl, rfl⟩ fl_RX12_3 dX12_sirenCount_2 hs1 (fun H locs S => ?_)
  refine lv_iconst (v := (3 : Int32)) hx hb dX12_sirenCount_5 (by decide) ?_
  refine lv_aload_n hx hb dX12_sirenCount_6 rfl (lv_at hl 0 rfl) ?_
  obtain ⟨a2, σ2, hc2, h⟩ := bd_el h
  refine x_callVI C S KX12 hx0 (ok_X12_timed (L := L) hc2 hSh hx0) ⟨cd_X12_timed, ni_RX12, ml_RX12_339, in_X12_timed, sl_X12_timed⟩ ⟨by decide, by decide⟩ rfl ⟨by decide, by decide⟩ hl.1 rfl (Nat.le_of_ble_eq_true rfl) ⟨by decide, by decide⟩ dX12_sirenCount_7 (fun H locs S => ?_)
  refine lv_imul hx hb dX12_sirenCount_10 ?_
  exact x_iret C S hr h dX12_sirenCount_11
theorem dX12_cannotPlan_0 : decode cX12_cannotPlan 0 = .ok (.aload_n 0, 1) := by decide +kernel
theorem dX12_cannotPlan_1 : decode cX12_cannotPlan 1 = .ok (.aload_n 0, 1) := by decide +kernel
theorem dX12_cannotPlan_2 : decode cX12_cannotPlan 2 = .ok (.invokevirtual 142, 3) := by decide +kernel
theorem dX12_cannotPlan_5 : decode cX12_cannotPlan 5 = .ok (.aload_n 0, 1) := by decide +kernel
theorem dX12_cannotPlan_6 : decode cX12_cannotPlan 6 = .ok (.invokevirtual 339, 3) := by decide +kernel
theorem dX12_cannotPlan_9 : decode cX12_cannotPlan 9 = .ok (.isub, 1) := by decide +kernel
theorem dX12_cannotPlan_10 : decode cX12_cannotPlan 10 = .ok (.iconst 4, 1) := by decide +kernel
theorem dX12_cannotPlan_11 : decode cX12_cannotPlan 11 = .ok (.if_icmp .gt 12, 3) := by decide +kernel
theorem dX12_cannotPlan_14 : decode cX12_cannotPlan 14 = .ok (.aload_n 0, 1) := by decide +kernel
theorem dX12_cannotPlan_15 : decode cX12_cannotPlan 15 = .ok (.invokevirtual 195, 3) := by decide +kernel
theorem dX12_cannotPlan_18 : decode cX12_cannotPlan 18 = .ok (.bipush 12, 2) := by decide +kernel
theorem dX12_cannotPlan_20 : decode cX12_cannotPlan 20 = .ok (.if_icmp .le 7, 3) := by decide +kernel
theorem dX12_cannotPlan_23 : decode cX12_cannotPlan 23 = .ok (.iconst 1, 1) := by decide +kernel
theorem dX12_cannotPlan_24 : decode cX12_cannotPlan 24 = .ok (.goto 4, 3) := by decide +kernel
theorem dX12_cannotPlan_27 : decode cX12_cannotPlan 27 = .ok (.iconst 0, 1) := by decide +kernel
theorem dX12_cannotPlan_28 : decode cX12_cannotPlan 28 = .ok (.iload_n 1, 1) := by decide +kernel
theorem dX12_cannotPlan_29 : decode cX12_cannotPlan 29 = .ok (.invokevirtual 185, 3) := by decide +kernel
theorem dX12_cannotPlan_32 : decode cX12_cannotPlan 32 = .ok (.ireturn, 1) := by decide +kernel
def f_X12_cannotPlan (N : Nat) (R : Nat → Nat → Nat) (σ : SI) (x0 : Nat) (x1 : Int32) : Option (Int32 × SI) := bd (f_X12_blasts N R σ x0) (fun a1 σ1 => bd (f_X12_timed N R σ1 x0) (fun a2 σ2 => if (4 : Int32) < (a1 - a2) then (bd (f_X12_throwsIf N R σ2 x0 (1 : Int32) x1) (fun a4 σ4 => cb a4 (some (a4, σ4)))) else (bd (f_X12_starts N R σ2 x0) (fun a6 σ6 => if a6 ≤ (12 : Int32) then (bd (f_X12_throwsIf N R σ6 x0 (0 : Int32) x1) (fun a8 σ8 => cb a8 (some (a8, σ8)))) else (bd (f_X12_throwsIf N R σ6 x0 (1 : Int32) x1) (fun a10 σ10 => cb a10 (some (a10, σ10))))))))
set_option maxHeartbeats 4000000 in
set_option maxRecDepth 100000 in
theorem ok_X12_cannotPlan {l : Launch} {g : GL} {R : Nat → Nat → Nat} {L : Nat → Nat → Int64} {N : Nat} {σ : SI} {x0 : Nat} {x1 : Int32} {r : (Int32 × SI)} (h : f_X12_cannotPlan N R σ x0 x1 = some r) (hSh : ShR R) (hx0 : Ok 194 x0 12) : Ct l g 3 yX12_cannotPlan cX12_cannotPlan 2 (some .boolean) 194 194 0 0 [.ref (gb g + x0), .int x1] (mkS σ R L) (PI R L r) := by
  refine Met.ofW (cc := cX12_cannotPlan) (maxL := 2) (ret := (some .boolean)) (by decide) rfl ?_
  intro p e s m args below meth c s₁ B hml hv
  obtain ⟨rfl, hE, hLo, hWd⟩ := hv
  have hr : meth.sig.returnType = (some .boolean) := B.returns
  have C : Cx l g p s m meth c cX12_cannotPlan 2 RX12 := ⟨B.exec, B.bytes, hml, findClass_of_methodNamed B.named, hE, hLo, B.notSynchronized⟩
  have S : S2 g s σ R L s.heap [] := ⟨hWd, va_S.rf⟩
  have hx := C.1
  have hb := C.2.1
  have hl := lv_entry ([.ref (gb g + x0), .int x1]) (n := 2) (Nat.le_of_ble_eq_true rfl)
  rw [lg_entry_eq]
  generalize (lg_sl ([.ref (gb g + x0), .int x1]) ++ List.replicate (2 - (lg_sl ([.ref (gb g + x0), .int x1])).length) Slot.unset).toArray = ls at hl ⊢
  have hl : lv_has ls 2 [(0, .ref (gb g + x0)), (1, .int x1)] := hl
  generalize hH : s.heap = H at S ⊢
  generalize hlc : ([] : List Loc) = locs at S ⊢
  rw [f_X12_cannotPlan] at h
  refine lv_aload_n hx hb dX12_cannotPlan_0 rfl (lv_at hl 0 rfl) ?_
  refine lv_aload_n hx hb dX12_cannotPlan_1 rfl (lv_at hl 0 rfl) ?_
  obtain ⟨a1, σ1, hc1, h⟩ := bd_el h
  refine x_callVI C S KX12 hx0 (ok_X12_blasts (L := L) hc1 hSh hx0) ⟨cd_X12_blasts, ni_RX12, ml_RX12_142, in_X12_blasts, sl_X12_blasts⟩ ⟨by decide, by decide⟩ rfl ⟨by decide, by decide⟩ hl.1 rfl (Nat.le_of_ble_eq_true rfl) ⟨by decide, by decide⟩ dX12_cannotPlan_2 (fun H locs S => ?_)
  refine lv_aload_n hx hb dX12_cannotPlan_5 rfl (lv_at hl 0 rfl) ?_
  obtain ⟨a2, σ2, hc2, h⟩ := bd_el h
  refine x_callVI C S KX12 hx0 (ok_X12_timed (L := L) hc2 hSh hx0) ⟨cd_X12_timed, ni_RX12, ml_RX12_339, in_X12_timed, sl_X12_timed⟩ ⟨by decide, by decide⟩ rfl ⟨by decide, by decide⟩ hl.1 rfl (Nat.le_of_ble_eq_true rfl) ⟨by decide, by decide⟩ dX12_cannotPlan_6 (fun H locs S => ?_)
  refine lv_isub hx hb dX12_cannotPlan_9 ?_
  refine lv_iconst (v := (4 : Int32)) hx hb dX12_cannotPlan_10 (by decide) ?_
  refine lv_icmp_gt (tgt := 23) hx hb dX12_cannotPlan_11 (by decide) (fun c3 => ?_) (fun c3 => ?_)
  · have h := it_p c3 h
    refine lv_iconst (v := (1 : Int32)) hx hb dX12_cannotPlan_23 (by decide) ?_
    refine lv_goto (tgt := 28) hx hb dX12_cannotPlan_24 (by decide) ?_
    refine lv_iload_n hx hb dX12_cannotPlan_28 rfl (lv_at hl 1 rfl) ?_
    obtain ⟨a4, σ4, hc4, h⟩ := bd_el h
    refine x_callVI C S KX12 hx0 (ok_X12_throwsIf (L := L) hc4 hSh hx0) ⟨cd_X12_throwsIf, ni_RX12, ml_RX12_185, in_X12_throwsIf, sl_X12_throwsIf⟩ ⟨by decide, by decide⟩ rfl ⟨by decide, by decide⟩ hl.1 rfl (Nat.le_of_ble_eq_true rfl) ⟨by decide, by decide⟩ dX12_cannotPlan_29 (fun H locs S => ?_)
    obtain ⟨hb5, h⟩ := cb_el h
    exact x_zret C S hr hb5 h dX12_cannotPlan_32
  · have h := it_n c3 h
    refine lv_aload_n hx hb dX12_cannotPlan_14 rfl (lv_at hl 0 rfl) ?_
    obtain ⟨a6, σ6, hc6, h⟩ := bd_el h
    refine x_callVI C S KX12 hx0 (ok_X12_starts (L := L) hc6 hSh hx0) ⟨cd_X12_starts, ni_RX12, ml_RX12_195, in_X12_starts, sl_X12_starts⟩ ⟨by decide, by decide⟩ rfl ⟨by decide, by decide⟩ hl.1 rfl (Nat.le_of_ble_eq_true rfl) ⟨by decide, by decide⟩ dX12_cannotPlan_15 (fun H locs S => ?_)
    refine lv_bipush (v := (12 : Int32)) hx hb dX12_cannotPlan_18 (by decide) ?_
    refine lv_icmp_le (tgt := 27) hx hb dX12_cannotPlan_20 (by decide) (fun c7 => ?_) (fun c7 => ?_)
    · have h := it_p c7 h
      refine lv_iconst (v := (0 : Int32)) hx hb dX12_cannotPlan_27 (by decide) ?_
      refine lv_iload_n hx hb dX12_cannotPlan_28 rfl (lv_at hl 1 rfl) ?_
      obtain ⟨a8, σ8, hc8, h⟩ := bd_el h
      refine x_callVI C S KX12 hx0 (ok_X12_throwsIf (L := L) hc8 hSh hx0) ⟨cd_X12_throwsIf, ni_RX12, ml_RX12_185, in_X12_throwsIf, sl_X12_throwsIf⟩ ⟨by decide, by decide⟩ rfl ⟨by decide, by decide⟩ hl.1 rfl (Nat.le_of_ble_eq_true rfl) ⟨by decide, by decide⟩ dX12_cannotPlan_29 (fun H locs S => ?_)
      obtain ⟨hb9, h⟩ := cb_el h
      exact x_zret C S hr hb9 h dX12_cannotPlan_32
    · have h := it_n c7 h
      refine lv_iconst (v := (1 : Int32)) hx hb dX12_cannotPlan_23 (by decide) ?_
      refine lv_goto (tgt := 28) hx hb dX12_cannotPlan_24 (by decide) ?_
      refine lv_iload_n hx hb dX12_cannotPlan_28 rfl (lv_at hl 1 rfl) ?_
      obtain ⟨a10, σ10, hc10, h⟩ := bd_el h
      refine x_callVI C S KX12 hx0 (ok_X12_throwsIf (L := L) hc10 hSh hx0) ⟨cd_X12_throwsIf, ni_RX12, ml_RX12_185, in_X12_throwsIf, sl_X12_throwsIf⟩ ⟨by decide, by decide⟩ rfl ⟨by decide, by decide⟩ hl.1 rfl (Nat.le_of_ble_eq_true rfl) ⟨by decide, by decide⟩ dX12_cannotPlan_29 (fun H locs S => ?_)
      obtain ⟨hb11, h⟩ := cb_el h
      exact x_zret C S hr hb11 h dX12_cannotPlan_32
