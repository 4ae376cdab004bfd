theorem dX11_longestAllowed_0 : decode cX11_longestAllowed 0 = .ok (.aload_n 0, 1) := by decide +kernel
theorem dX11_longestAllowed_1 : decode cX11_longestAllowed 1 = .ok (.iload_n 1, 1) := by decide +kernel
theorem dX11_longestAllowed_2 : decode cX11_longestAllowed 2 = .ok (.invokevirtual 225, 3) := by decide +kernel
theorem dX11_longestAllowed_5 : decode cX11_longestAllowed 5 = .ok (.iconst 0, 1) := by decide +kernel
theorem dX11_longestAllowed_6 : decode cX11_longestAllowed 6 = .ok (.istore_n 2, 1) := by decide +kernel
theorem dX11_longestAllowed_7 : decode cX11_longestAllowed 7 = .ok (.iconst 0, 1) := by decide +kernel
theorem dX11_longestAllowed_8 : decode cX11_longestAllowed 8 = .ok (.istore_n 3, 1) := by decide +kernel
theorem dX11_longestAllowed_9 : decode cX11_longestAllowed 9 = .ok (.aload_n 0, 1) := by decide +kernel
theorem dX11_longestAllowed_10 : decode cX11_longestAllowed 10 = .ok (.getfield 61, 3) := by decide +kernel
theorem dX11_longestAllowed_13 : decode cX11_longestAllowed 13 = .ok (.invokevirtual 121, 3) := by decide +kernel
theorem dX11_longestAllowed_16 : decode cX11_longestAllowed 16 = .ok (.istore 4, 2) := by decide +kernel
theorem dX11_longestAllowed_18 : decode cX11_longestAllowed 18 = .ok (.iconst 0, 1) := by decide +kernel
theorem dX11_longestAllowed_19 : decode cX11_longestAllowed 19 = .ok (.istore 5, 2) := by decide +kernel
theorem dX11_longestAllowed_21 : decode cX11_longestAllowed 21 = .ok (.iload 5, 2) := by decide +kernel
theorem dX11_longestAllowed_23 : decode cX11_longestAllowed 23 = .ok (.iload 4, 2) := by decide +kernel
theorem dX11_longestAllowed_25 : decode cX11_longestAllowed 25 = .ok (.if_icmp .ge 40, 3) := by decide +kernel
theorem dX11_longestAllowed_28 : decode cX11_longestAllowed 28 = .ok (.aload_n 0, 1) := by decide +kernel
theorem dX11_longestAllowed_29 : decode cX11_longestAllowed 29 = .ok (.iload_n 1, 1) := by decide +kernel
theorem dX11_longestAllowed_30 : decode cX11_longestAllowed 30 = .ok (.aload_n 0, 1) := by decide +kernel
theorem dX11_longestAllowed_31 : decode cX11_longestAllowed 31 = .ok (.getfield 61, 3) := by decide +kernel
theorem dX11_longestAllowed_34 : decode cX11_longestAllowed 34 = .ok (.iload 5, 2) := by decide +kernel
theorem dX11_longestAllowed_36 : decode cX11_longestAllowed 36 = .ok (.invokevirtual 239, 3) := by decide +kernel
theorem dX11_longestAllowed_39 : decode cX11_longestAllowed 39 = .ok (.invokevirtual 242, 3) := by decide +kernel
theorem dX11_longestAllowed_42 : decode cX11_longestAllowed 42 = .ok (.ifCond .eq 9, 3) := by decide +kernel
theorem dX11_longestAllowed_45 : decode cX11_longestAllowed 45 = .ok (.iload_n 3, 1) := by decide +kernel
theorem dX11_longestAllowed_46 : decode cX11_longestAllowed 46 = .ok (.iconst 1, 1) := by decide +kernel
theorem dX11_longestAllowed_47 : decode cX11_longestAllowed 47 = .ok (.iadd, 1) := by decide +kernel
theorem dX11_longestAllowed_48 : decode cX11_longestAllowed 48 = .ok (.goto 4, 3) := by decide +kernel
theorem dX11_longestAllowed_51 : decode cX11_longestAllowed 51 = .ok (.iconst 0, 1) := by decide +kernel
theorem dX11_longestAllowed_52 : decode cX11_longestAllowed 52 = .ok (.istore_n 3, 1) := by decide +kernel
theorem dX11_longestAllowed_53 : decode cX11_longestAllowed 53 = .ok (.iload_n 2, 1) := by decide +kernel
theorem dX11_longestAllowed_54 : decode cX11_longestAllowed 54 = .ok (.iload_n 3, 1) := by decide +kernel
theorem dX11_longestAllowed_55 : decode cX11_longestAllowed 55 = .ok (.invokestatic 249, 3) := by decide +kernel
theorem dX11_longestAllowed_58 : decode cX11_longestAllowed 58 = .ok (.istore_n 2, 1) := by decide +kernel
theorem dX11_longestAllowed_59 : decode cX11_longestAllowed 59 = .ok (.iinc 5 1, 3) := by decide +kernel
theorem dX11_longestAllowed_62 : decode cX11_longestAllowed 62 = .ok (.goto (-41), 3) := by decide +kernel
theorem dX11_longestAllowed_65 : decode cX11_longestAllowed 65 = .ok (.iload_n 2, 1) := by decide +kernel
theorem dX11_longestAllowed_66 : decode cX11_longestAllowed 66 = .ok (.ireturn, 1) := by decide +kernel
def f_X11_longestAllowed_21 (N : Nat) (R : Nat → Nat → Nat) : Nat → SI → Nat → Int32 → Int32 → Int32 → Int32 → Int32 → Option ((Int32 ⊕ Nat) × SI)
  | 0, _, _, _, _, _, _, _ => none
  | n + 1, σ, x0, x1, x2, x3, x4, x5 => if x4 ≤ x5 then (some (.inl x2, σ)) else (bd (f_X9_startAt N R σ (R x0 8) x5) (fun a7 σ7 => bd (f_X11_isAllowed N R σ7 x0 x1 a7) (fun a8 σ8 => if a8 = 0 then (f_X11_longestAllowed_21 N R n σ8 x0 x1 (if x2 < (0 : Int32) then (0 : Int32) else x2) (0 : Int32) x4 (x5 + 1)) else (f_X11_longestAllowed_21 N R n σ8 x0 x1 (if x2 < (x3 + (1 : Int32)) then (x3 + (1 : Int32)) else x2) (x3 + (1 : Int32)) x4 (x5 + 1)))))
def f_X11_longestAllowed (N : Nat) (R : Nat → Nat → Nat) (σ : SI) (x0 : Nat) (x1 : Int32) : Option ((Int32 ⊕ Nat) × SI) := bdX (f_X11_needBlast N R σ x0 x1) (fun _ σ2 => bd (f_X9_startTotal N R σ2 (R x0 8)) (fun a4 σ4 => f_X11_longestAllowed_21 N R N σ4 x0 x1 (0 : Int32) (0 : Int32) a4 (0 : Int32)))
set_option maxHeartbeats 4000000 in
set_option maxRecDepth 100000 in
theorem w_X11_longestAllowed_21 {l : Launch} {g : GL} {p : Program} {e : Jvm.Env} {s : State} {m : MethodId} {args : Array Value} {below : List Frame} {meth : Method} {c : Code} {R : Nat → Nat → Nat} {L : Nat → Nat → Int64} {r : ((Int32 ⊕ Nat) × SI)} {N : Nat} (C : Cx l g p s m meth c cX11_longestAllowed 6 RX11) (hr : meth.sig.returnType = (some .int)) (hT : ∀ x ∈ c.exceptionTable.toList, False) (hSh : ShR R) : ∀ (n : Nat) (σ : SI) (x0 : Nat) (x1 : Int32) (x2 : Int32) (x3 : Int32) (x4 : Int32) (x5 : Int32), f_X11_longestAllowed_21 N R n σ x0 x1 x2 x3 x4 x5 = some r → Ok 194 x0 11 → ∀ (H : Heap) (locs : List Loc) (ls : Array Slot), S2 g s σ R L H locs → lv_has ls 6 [(0, .ref (gb g + x0)), (1, .int x1), (2, .int x2), (3, .int x3), (4, .int x4), (5, .int x5)] → W p l e (rmd 7 1 6) s m args below meth c H locs 1 (6 * 1) (vx_MQ below (Qg g 194 (PIX R L r)) (Xg g 194 (PX R L r)) args s 1 6 (gA g)) (F0 m 21 ls []) := by
  have hx := C.1
  have hb := C.2.1
  intro n
  induction n with
  | zero =>
    intro σ x0 x1 x2 x3 x4 x5 h
    cases (show (none : Option ((Int32 ⊕ Nat) × SI)) = some r from h)
  | succ n ih =>
    intro σ x0 x1 x2 x3 x4 x5 h hx0 H locs ls S hl
    rw [f_X11_longestAllowed_21] at h
    refine lv_iload hx hb dX11_longestAllowed_21 (lv_at hl 5 rfl) ?_
    refine lv_iload hx hb dX11_longestAllowed_23 (lv_at hl 4 rfl) ?_
    refine lv_icmp_ge (tgt := 65) hx hb dX11_longestAllowed_25 (by decide) (fun c5 => ?_) (fun c5 => ?_)
    · have h := it_p c5 h
      refine lv_iload_n hx hb dX11_longestAllowed_65 rfl (lv_at hl 2 rfl) ?_
      exact x_iretX C S hr (by decide) (by decide) h dX11_longestAllowed_66
    · have h := it_n c5 h
      refine lv_aload_n hx hb dX11_longestAllowed_28 rfl (lv_at hl 0 rfl) ?_
      refine lv_iload_n hx hb dX11_longestAllowed_29 rfl (lv_at hl 1 rfl) ?_
      refine lv_aload_n hx hb dX11_longestAllowed_30 rfl (lv_at hl 0 rfl) ?_
      have hR6 : Ok 194 (R x0 8) 9 := hSh x0 11 8 9 hx0.1 rfl
      refine x_getR C S KX11 hx0 8 (by decide) rfl rfl fl_RX11_61 hR6 dX11_longestAllowed_31 ?_
      refine lv_iload hx hb dX11_longestAllowed_34 (lv_at hl 5 rfl) ?_
      obtain ⟨a7, σ7, hc7, h⟩ := bd_el h
      refine x_callVI C S KX9 hR6 (ok_X9_startAt (L := L) hc7 hSh hR6) ⟨cd_X9_startAt, ni_RX9, ml_RX11_239, in_X9_startAt, sl_X9_startAt⟩ ⟨by decide, by decide⟩ rfl (rm_ok (by decide) (by decide)) hl.1 rfl (Nat.le_of_ble_eq_true rfl) ⟨by decide, by decide⟩ dX11_longestAllowed_36 (fun H locs S => ?_)
      obtain ⟨a8, σ8, hc8, h⟩ := bd_el h
      refine x_callVI C S KX11 hx0 (ok_X11_isAllowed (L := L) hc8 hSh hx0) ⟨cd_X11_isAllowed, ni_RX11, ml_RX11_242, in_X11_isAllowed, sl_X11_isAllowed⟩ ⟨by decide, by decide⟩ rfl (rm_ok (by decide) (by decide)) hl.1 rfl (Nat.le_of_ble_eq_true rfl) ⟨by decide, by decide⟩ dX11_longestAllowed_39 (fun H locs S => ?_)
      refine lv_if_eq (tgt := 51) hx hb dX11_longestAllowed_42 (by decide) (fun c9 => ?_) (fun c9 => ?_)
      · have h := it_p c9 h
        refine lv_iconst (v := (0 : Int32)) hx hb dX11_longestAllowed_51 (by decide) ?_
        refine lv_istore_n (lv' := [(3, .int (0 : Int32)), (0, .ref (gb g + x0)), (1, .int x1), (2, .int x2), (4, .int x4), (5, .int x5)]) hx hb dX11_longestAllowed_52 rfl hl (by decide) rfl (fun ls hl => ?_)
        refine lv_iload_n hx hb dX11_longestAllowed_53 rfl (lv_at hl 3 rfl) ?_
        refine lv_iload_n hx hb dX11_longestAllowed_54 rfl (lv_at hl 0 rfl) ?_
        refine x_max C hl.1 ⟨ml_RX11_249, st_math_max, ni_math, cd_math_max⟩ (Nat.le_of_ble_eq_true rfl) (Nat.le_of_ble_eq_true rfl) (Nat.le_of_ble_eq_true rfl) (Nat.le_of_ble_eq_true rfl) dX11_longestAllowed_55 ?_
        refine lv_istore_n (lv' := [(2, .int (if x2 < (0 : Int32) then (0 : Int32) else x2)), (3, .int (0 : Int32)), (0, .ref (gb g + x0)), (1, .int x1), (4, .int x4), (5, .int x5)]) hx hb dX11_longestAllowed_58 rfl hl (by decide) rfl (fun ls hl => ?_)
        refine lv_iinc (v := x5 + 1) (lv' := [(5, .int (x5 + 1)), (2, .int (if x2 < (0 : Int32) then (0 : Int32) else x2)), (3, .int (0 : Int32)), (0, .ref (gb g + x0)), (1, .int x1), (4, .int x4)]) hx hb dX11_longestAllowed_59 hl (k := 5) rfl rfl (by decide) rfl (fun ls hl => ?_)
        refine lv_goto (tgt := 21) hx hb dX11_longestAllowed_62 (by decide) ?_
        exact ih σ8 x0 x1 (if x2 < (0 : Int32) then (0 : Int32) else x2) (0 : Int32) x4 (x5 + 1) h hx0 H locs ls S (lv_sub hl [3, 4, 1, 2, 5, 0] rfl)
      · have h := it_n c9 h
        refine lv_iload_n hx hb dX11_longestAllowed_45 rfl (lv_at hl 3 rfl) ?_
        refine lv_iconst (v := (1 : Int32)) hx hb dX11_longestAllowed_46 (by decide) ?_
        refine lv_iadd hx hb dX11_longestAllowed_47 ?_
        refine lv_goto (tgt := 52) hx hb dX11_longestAllowed_48 (by decide) ?_
        refine lv_istore_n (lv' := [(3, .int (x3 + (1 : Int32))), (0, .ref (gb g + x0)), (1, .int x1), (2, .int x2), (4, .int x4), (5, .int x5)]) hx hb dX11_longestAllowed_52 rfl hl (by decide) rfl (fun ls hl => ?_)
        refine lv_iload_n hx hb dX11_longestAllowed_53 rfl (lv_at hl 3 rfl) ?_
        refine lv_iload_n hx hb dX11_longestAllowed_54 rfl (lv_at hl 0 rfl) ?_
        refine x_max C hl.1 ⟨ml_RX11_249, st_math_max, ni_math, cd_math_max⟩ (Nat.le_of_ble_eq_true rfl) (Nat.le_of_ble_eq_true rfl) (Nat.le_of_ble_eq_true rfl) (Nat.le_of_ble_eq_true rfl) dX11_longestAllowed_55 ?_
        refine lv_istore_n (lv' := [(2, .int (if x2 < (x3 + (1 : Int32)) then (x3 + (1 : Int32)) else x2)), (3, .int (x3 + (1 : Int32))), (0, .ref (gb g + x0)), (1, .int x1), (4, .int x4), (5, .int x5)]) hx hb dX11_longestAllowed_58 rfl hl (by decide) rfl (fun ls hl => ?_)
        refine lv_iinc (v := x5 + 1) (lv' := [(5, .int (x5 + 1)), (2, .int (if x2 < (x3 + (1 : Int32)) then (x3 + (1 : Int32)) else x2)), (3, .int (x3 + (1 : Int32))), (0, .ref (gb g + x0)), (1, .int x1), (4, .int x4)]) hx hb dX11_longestAllowed_59 hl (k := 5) rfl rfl (by decide) rfl (fun ls hl => ?_)
        refine lv_goto (tgt := 21) hx hb dX11_longestAllowed_62 (by decide) ?_
        exact ih σ8 x0 x1 (if x2 < (x3 + (1 : Int32)) then (x3 + (1 : Int32)) else x2) (x3 + (1 : Int32)) x4 (x5 + 1) h hx0 H locs ls S (lv_sub hl [3, 4, 1, 2, 5, 0] rfl)
set_option maxHeartbeats 4000000 in
set_option maxRecDepth 100000 in
theorem ok_X11_longestAllowed {l : Launch} {g : GL} {R : Nat → Nat → Nat} {L : Nat → Nat → Int64} {N : Nat} {σ : SI} {x0 : Nat} {x1 : Int32} {r : ((Int32 ⊕ Nat) × SI)} (h : f_X11_longestAllowed N R σ x0 x1 = some r) (hSh : ShR R) (hx0 : Ok 194 x0 11) : CtX l g 7 yX11_longestAllowed cX11_longestAllowed 6 (some .int) 194 194 1 6 [.ref (gb g + x0), .int x1] (mkS σ R L) (PIX R L r) (PX R L r) := by
  refine vx_ofW (cc := cX11_longestAllowed) (maxL := 6) (ret := (some .int)) (by decide) rfl ?_
  intro p e s m args below meth c s₁ B hml hT hv
  obtain ⟨rfl, hE, hLo, hWd⟩ := hv
  have hr : meth.sig.returnType = (some .int) := B.returns
  have C : Cx l g p s m meth c cX11_longestAllowed 6 RX11 := ⟨B.exec, B.bytes, hml, findClass_of_methodNamed B.named, hE, hLo, B.notSynchronized⟩
  have S : S2 g s σ R L s.heap [] := ⟨hWd, va_S.rf⟩
  have hx := C.1
  have hb := C.2.1
  have hl := lv_entry ([.ref (gb g + x0), .int x1]) (n := 6) (Nat.le_of_ble_eq_true rfl)
  rw [lg_entry_eq]
  generalize (lg_sl ([.ref (gb g + x0), .int x1]) ++ List.replicate (6 - (lg_sl ([.ref (gb g + x0), .int x1])).length) Slot.unset).toArray = ls at hl ⊢
  have hl : lv_has ls 6 [(0, .ref (gb g + x0)), (1, .int x1)] := hl
  generalize hH : s.heap = H at S ⊢
  generalize hlc : ([] : List Loc) = locs at S ⊢
  rw [f_X11_longestAllowed] at h
  refine lv_aload_n hx hb dX11_longestAllowed_0 rfl (lv_at hl 0 rfl) ?_
  refine lv_iload_n hx hb dX11_longestAllowed_1 rfl (lv_at hl 1 rfl) ?_
  rcases bdX_el h with ⟨a2, σ2, hc2, h⟩ | ⟨q2, σ2, hc2, hr2⟩
  · refine x_callXV C S KX11 hx0 (ok_X11_needBlast (L := L) hc2 hSh hx0) ⟨cd_X11_needBlast, ni_RX11, ml_RX11_225, in_X11_needBlast, sl_X11_needBlast⟩ ⟨by decide, by decide⟩ rfl (rm_ok (by decide) (by decide)) hl.1 rfl (Nat.le_of_ble_eq_true rfl) ⟨by decide, by decide⟩ dX11_longestAllowed_2 hT ⟨by decide, by decide⟩ (fun H locs S => ?_)
    refine lv_iconst (v := (0 : Int32)) hx hb dX11_longestAllowed_5 (by decide) ?_
    refine lv_istore_n (lv' := [(2, .int (0 : Int32)), (0, .ref (gb g + x0)), (1, .int x1)]) hx hb dX11_longestAllowed_6 rfl hl (by decide) rfl (fun ls hl => ?_)
    refine lv_iconst (v := (0 : Int32)) hx hb dX11_longestAllowed_7 (by decide) ?_
    refine lv_istore_n (lv' := [(3, .int (0 : Int32)), (2, .int (0 : Int32)), (0, .ref (gb g + x0)), (1, .int x1)]) hx hb dX11_longestAllowed_8 rfl hl (by decide) rfl (fun ls hl => ?_)
    refine lv_aload_n hx hb dX11_longestAllowed_9 rfl (lv_at hl 2 rfl) ?_
    have hR3 : Ok 194 (R x0 8) 9 := hSh x0 11 8 9 hx0.1 rfl
    refine x_getR C S KX11 hx0 8 (by decide) rfl rfl fl_RX11_61 hR3 dX11_longestAllowed_10 ?_
    obtain ⟨a4, σ4, hc4, h⟩ := bd_el h
    refine x_callVI C S KX9 hR3 (ok_X9_startTotal (L := L) hc4 hSh hR3) ⟨cd_X9_startTotal, ni_RX9, ml_RX11_121, in_X9_startTotal, sl_X9_startTotal⟩ ⟨by decide, by decide⟩ rfl (rm_ok (by decide) (by decide)) hl.1 rfl (Nat.le_of_ble_eq_true rfl) ⟨by decide, by decide⟩ dX11_longestAllowed_13 (fun H locs S => ?_)
    refine lv_istore (lv' := [(4, .int a4), (3, .int (0 : Int32)), (2, .int (0 : Int32)), (0, .ref (gb g + x0)), (1, .int x1)]) hx hb dX11_longestAllowed_16 hl (by decide) rfl (fun ls hl => ?_)
    refine lv_iconst (v := (0 : Int32)) hx hb dX11_longestAllowed_18 (by decide) ?_
    refine lv_istore (lv' := [(5, .int (0 : Int32)), (4, .int a4), (3, .int (0 : Int32)), (2, .int (0 : Int32)), (0, .ref (gb g + x0)), (1, .int x1)]) hx hb dX11_longestAllowed_19 hl (by decide) rfl (fun ls hl => ?_)
    exact w_X11_longestAllowed_21 C hr hT hSh N σ4 x0 x1 (0 : Int32) (0 : Int32) a4 (0 : Int32) h hx0 H locs ls S (lv_sub hl [4, 5, 3, 2, 1, 0] rfl)
  · exact x_callXX C S KX11 hx0 (ok_X11_needBlast (L := L) hc2 hSh hx0) n_PVX ⟨cd_X11_needBlast, ni_RX11, ml_RX11_225, in_X11_needBlast, sl_X11_needBlast⟩ ⟨by decide, by decide⟩ rfl (rm_ok (by decide) (by decide)) hl.1 rfl (Nat.le_of_ble_eq_true rfl) ⟨by decide, by decide⟩ dX11_longestAllowed_2 hT ⟨by decide, by decide⟩ hr2
theorem dX11_allowedCount_0 : decode cX11_allowedCount 0 = .ok (.aload_n 0, 1) := by decide +kernel
theorem dX11_allowedCount_1 : decode cX11_allowedCount 1 = .ok (.iload_n 1, 1) := by decide +kernel
theorem dX11_allowedCount_2 : decode cX11_allowedCount 2 = .ok (.invokevirtual 225, 3) := by decide +kernel
theorem dX11_allowedCount_5 : decode cX11_allowedCount 5 = .ok (.aload_n 0, 1) := by decide +kernel
theorem dX11_allowedCount_6 : decode cX11_allowedCount 6 = .ok (.iload_n 1, 1) := by decide +kernel
theorem dX11_allowedCount_7 : decode cX11_allowedCount 7 = .ok (.iconst 0, 1) := by decide +kernel
theorem dX11_allowedCount_8 : decode cX11_allowedCount 8 = .ok (.invokevirtual 246, 3) := by decide +kernel
theorem dX11_allowedCount_11 : decode cX11_allowedCount 11 = .ok (.ireturn, 1) := by decide +kernel
def f_X11_allowedCount (N : Nat) (R : Nat → Nat → Nat) (σ : SI) (x0 : Nat) (x1 : Int32) : Option ((Int32 ⊕ Nat) × SI) := bdX (f_X11_needBlast N R σ x0 x1) (fun _ σ2 => bd (f_X11_startsWithReason N R σ2 x0 x1 (0 : Int32)) (fun a3 σ3 => some (.inl a3, σ3)))
set_option maxHeartbeats 4000000 in
set_option maxRecDepth 100000 in
theorem ok_X11_allowedCount {l : Launch} {g : GL} {R : Nat → Nat → Nat} {L : Nat → Nat → Int64} {N : Nat} {σ : SI} {x0 : Nat} {x1 : Int32} {r : ((Int32 ⊕ Nat) × SI)} (h : f_X11_allowedCount N R σ x0 x1 = some r) (hSh : ShR R) (hx0 : Ok 194 x0 11) : CtX l g 7 yX11_allowedCount cX11_allowedCount 2 (some .int) 194 194 1 6 [.ref (gb g + x0), .int x1] (mkS σ R L) (PIX R L r) (PX R L r) := by
  refine vx_ofW (cc := cX11_allowedCount) (maxL := 2) (ret := (some .int)) (by decide) rfl ?_
  intro p e s m args below meth c s₁ B hml hT hv
  obtain ⟨rfl, hE, hLo, hWd⟩ := hv
  have hr : meth.sig.returnType = (some .int) := B.returns
  have C : Cx l g p s m meth c cX11_allowedCount 2 RX11 := ⟨B.exec, B.bytes, hml, findClass_of_methodNamed B.named, hE, hLo, B.notSynchronized⟩
  have S : S2 g s σ R L s.heap [] := ⟨hWd, va_S.rf⟩
  have hx := C.1
  have hb := C.2.1
  have hl := lv_entry ([.ref (gb g + x0), .int x1]) (n := 2) (Nat.le_of_ble_eq_true rfl)
  rw [lg_entry_eq]
  generalize (lg_sl ([.ref (gb g + x0), .int x1]) ++ List.replicate (2 - (lg_sl ([.ref (gb g + x0), .int x1])).length) Slot.unset).toArray = ls at hl ⊢
  have hl : lv_has ls 2 [(0, .ref (gb g + x0)), (1, .int x1)] := hl
  generalize hH : s.heap = H at S ⊢
  generalize hlc : ([] : List Loc) = locs at S ⊢
  rw [f_X11_allowedCount] at h
  refine lv_aload_n hx hb dX11_allowedCount_0 rfl (lv_at hl 0 rfl) ?_
  refine lv_iload_n hx hb dX11_allowedCount_1 rfl (lv_at hl 1 rfl) ?_
  rcases bdX_el h with ⟨a2, σ2, hc2, h⟩ | ⟨q2, σ2, hc2, hr2⟩
  · refine x_callXV C S KX11 hx0 (ok_X11_needBlast (L := L) hc2 hSh hx0) ⟨cd_X11_needBlast, ni_RX11, ml_RX11_225, in_X11_needBlast, sl_X11_needBlast⟩ ⟨by decide, by decide⟩ rfl (rm_ok (by decide) (by decide)) hl.1 rfl (Nat.le_of_ble_eq_true rfl) ⟨by decide, by decide⟩ dX11_allowedCount_2 hT ⟨by decide, by decide⟩ (fun H locs S => ?_)
    refine lv_aload_n hx hb dX11_allowedCount_5 rfl (lv_at hl 0 rfl) ?_
    refine lv_iload_n hx hb dX11_allowedCount_6 rfl (lv_at hl 1 rfl) ?_
    refine lv_iconst (v := (0 : Int32)) hx hb dX11_allowedCount_7 (by decide) ?_
    obtain ⟨a3, σ3, hc3, h⟩ := bd_el h
    refine x_callVI C S KX11 hx0 (ok_X11_startsWithReason (L := L) hc3 hSh hx0) ⟨cd_X11_startsWithReason, ni_RX11, ml_RX11_246, in_X11_startsWithReason, sl_X11_startsWithReason⟩ ⟨by decide, by decide⟩ rfl (rm_ok (by decide) (by decide)) hl.1 rfl (Nat.le_of_ble_eq_true rfl) ⟨by decide, by decide⟩ dX11_allowedCount_8 (fun H locs S => ?_)
    exact x_iretX C S hr (by decide) (by decide) h dX11_allowedCount_11
  · exact x_callXX C S KX11 hx0 (ok_X11_needBlast (L := L) hc2 hSh hx0) n_PVX ⟨cd_X11_needBlast, ni_RX11, ml_RX11_225, in_X11_needBlast, sl_X11_needBlast⟩ ⟨by decide, by decide⟩ rfl (rm_ok (by decide) (by decide)) hl.1 rfl (Nat.le_of_ble_eq_true rfl) ⟨by decide, by decide⟩ dX11_allowedCount_2 hT ⟨by decide, by decide⟩ hr2
theorem dX11_schedule_0 : decode cX11_schedule 0 = .ok (.aload_n 0, 1) := by decide +kernel
theorem dX11_schedule_1 : decode cX11_schedule 1 = .ok (.iload_n 1, 1) := by decide +kernel
theorem dX11_schedule_2 : decode cX11_schedule 2 = .ok (.invokevirtual 125, 3) := by decide +kernel
theorem dX11_schedule_5 : decode cX11_schedule 5 = .ok (.astore_n 3, 1) := by decide +kernel
theorem dX11_schedule_6 : decode cX11_schedule 6 = .ok (.aload_n 0, 1) := by decide +kernel
theorem dX11_schedule_7 : decode cX11_schedule 7 = .ok (.iload_n 2, 1) := by decide +kernel
theorem dX11_schedule_8 : decode cX11_schedule 8 = .ok (.iconst 0, 1) := by decide +kernel
theorem dX11_schedule_9 : decode cX11_schedule 9 = .ok (.sipush 1439, 3) := by decide +kernel
theorem dX11_schedule_12 : decode cX11_schedule 12 = .ok (.invokevirtual 176, 3) := by decide +kernel
theorem dX11_schedule_15 : decode cX11_schedule 15 = .ok (.aload_n 3, 1) := by decide +kernel
theorem dX11_schedule_16 : decode cX11_schedule 16 = .ok (.getfield 231, 3) := by decide +kernel
theorem dX11_schedule_19 : decode cX11_schedule 19 = .ok (.ifCond .ne 12, 3) := by decide +kernel
theorem dX11_schedule_22 : decode cX11_schedule 22 = .ok (.aload_n 0, 1) := by decide +kernel
theorem dX11_schedule_23 : decode cX11_schedule 23 = .ok (.iload_n 1, 1) := by decide +kernel
theorem dX11_schedule_24 : decode cX11_schedule 24 = .ok (.iload_n 2, 1) := by decide +kernel
theorem dX11_schedule_25 : decode cX11_schedule 25 = .ok (.invokevirtual 242, 3) := by decide +kernel
theorem dX11_schedule_28 : decode cX11_schedule 28 = .ok (.ifCond .ne 14, 3) := by decide +kernel
theorem dX11_schedule_31 : decode cX11_schedule 31 = .ok (.new 257, 3) := by decide +kernel
theorem dX11_schedule_34 : decode cX11_schedule 34 = .ok (.dup, 1) := by decide +kernel
theorem dX11_schedule_35 : decode cX11_schedule 35 = .ok (.ldc_w 259, 3) := by decide +kernel
theorem dX11_schedule_38 : decode cX11_schedule 38 = .ok (.invokespecial 261, 3) := by decide +kernel
theorem dX11_schedule_41 : decode cX11_schedule 41 = .ok (.athrow, 1) := by decide +kernel
theorem dX11_schedule_42 : decode cX11_schedule 42 = .ok (.aload_n 0, 1) := by decide +kernel
theorem dX11_schedule_43 : decode cX11_schedule 43 = .ok (.getfield 61, 3) := by decide +kernel
theorem dX11_schedule_46 : decode cX11_schedule 46 = .ok (.getfield 228, 3) := by decide +kernel
theorem dX11_schedule_49 : decode cX11_schedule 49 = .ok (.iload_n 1, 1) := by decide +kernel
theorem dX11_schedule_50 : decode cX11_schedule 50 = .ok (.iaload, 1) := by decide +kernel
theorem dX11_schedule_51 : decode cX11_schedule 51 = .ok (.istore 4, 2) := by decide +kernel
theorem dX11_schedule_53 : decode cX11_schedule 53 = .ok (.aload_n 0, 1) := by decide +kernel
theorem dX11_schedule_54 : decode cX11_schedule 54 = .ok (.invokevirtual 262, 3) := by decide +kernel
theorem dX11_schedule_57 : decode cX11_schedule 57 = .ok (.aload_n 0, 1) := by decide +kernel
theorem dX11_schedule_58 : decode cX11_schedule 58 = .ok (.getfield 61, 3) := by decide +kernel
theorem dX11_schedule_61 : decode cX11_schedule 61 = .ok (.getfield 228, 3) := by decide +kernel
theorem dX11_schedule_64 : decode cX11_schedule 64 = .ok (.iload_n 1, 1) := by decide +kernel
theorem dX11_schedule_65 : decode cX11_schedule 65 = .ok (.iload_n 2, 1) := by decide +kernel
theorem dX11_schedule_66 : decode cX11_schedule 66 = .ok (.iastore, 1) := by decide +kernel
theorem dX11_schedule_67 : decode cX11_schedule 67 = .ok (.iload 4, 2) := by decide +kernel
theorem dX11_schedule_69 : decode cX11_schedule 69 = .ok (.ireturn, 1) := by decide +kernel
def f_X11_schedule_31 (N : Nat) (R : Nat → Nat → Nat) (σ : SI) : Option ((Int32 ⊕ Nat) × SI) := some (.inr 2, σ)
def f_X11_schedule (N : Nat) (R : Nat → Nat → Nat) (σ : SI) (x0 : Nat) (x1 : Int32) (x2 : Int32) : Option ((Int32 ⊕ Nat) × SI) := bdX (f_X11_blastAt N R σ x0 x1) (fun a2 σ2 => bdX (f_X11_needRange N R σ2 x0 x2 (0 : Int32) (1439 : Int32)) (fun _ σ4 => if (σ4 a2 13) = 0 then (bd (f_X11_isAllowed N R σ4 x0 x1 x2) (fun a6 σ6 => if a6 = 0 then (f_X11_schedule_31 N R σ6) else (ck x1 6 (bd (f_X11_recordAction N R σ6 x0) (fun _ σ11 => ck x1 6 (sq (up σ11 (R (R x0 8) 6) x1.toNatClampNeg x2) (fun σ15 => some (.inl (σ6 (R (R x0 8) 6) x1.toNatClampNeg), σ15)))))))) else (f_X11_schedule_31 N R σ4)))
set_option maxHeartbeats 4000000 in
set_option maxRecDepth 100000 in
theorem w_X11_schedule_31 {l : Launch} {g : GL} {p : Program} {e : Jvm.Env} {s : State} {m : MethodId} {args : Array Value} {below : List Frame} {meth : Method} {c : Code} {R : Nat → Nat → Nat} {L : Nat → Nat → Int64} {r : ((Int32 ⊕ Nat) × SI)} {N : Nat} (C : Cx l g p s m meth c cX11_schedule 5 RX11) (hr : meth.sig.returnType = (some .int)) (hT : ∀ x ∈ c.exceptionTable.toList, False) (hSh : ShR R) : ∀ (σ : SI), f_X11_schedule_31 N R σ = some r → ∀ (H : Heap) (locs : List Loc) (ls : Array Slot), S2 g s σ R L H locs → lv_has ls 5 [] → W p l e (rmd 8 3 18) s m args below meth c H locs 2 (6 * 2) (vx_MQ below (Qg g 194 (PIX R L r)) (Xg g 194 (PX R L r)) args s 3 18 (gA g)) (F0 m 31 ls []) := by
  have hx := C.1
  have hb := C.2.1
  intro σ h H locs ls S hl
  rw [f_X11_schedule_31] at h
  exact x_throwW (q := 2) C S (by decide) cl_RX11_257 ni_ex2 (show (RX11, 259, "fired, or the minute is not allowed", 19) ∈ strTab by decide) at_RX11_261 hl.1 dX11_schedule_31 dX11_schedule_34 dX11_schedule_35 dX11_schedule_38 dX11_schedule_41 hT (by decide) (Nat.le_of_ble_eq_true rfl) (by decide) (by decide) (by decide) (by decide) rfl h
set_option maxHeartbeats 4000000 in
set_option maxRecDepth 100000 in
theorem ok_X11_schedule {l : Launch} {g : GL} {R : Nat → Nat → Nat} {L : Nat → Nat → Int64} {N : Nat} {σ : SI} {x0 : Nat} {x1 : Int32} {x2 : Int32} {r : ((Int32 ⊕ Nat) × SI)} (h : f_X11_schedule N R σ x0 x1 x2 = some r) (hSh : ShR R) (hx0 : Ok 194 x0 11) : CtX l g 8 yX11_schedule cX11_schedule 5 (some .int) 194 194 3 18 [.ref (gb g + x0), .int x1, .int x2] (mkS σ R L) (PIX R L r) (PX R L r) := by
  refine vx_ofW (cc := cX11_schedule) (maxL := 5) (ret := (some .int)) (by decide) rfl ?_
  intro p e s m args below meth c s₁ B hml hT hv
  obtain ⟨rfl, hE, hLo, hWd⟩ := hv
  have hr : meth.sig.returnType = (some .int) := B.returns
  have C : Cx l g p s m meth c cX11_schedule 5 RX11 := ⟨B.exec, B.bytes, hml, findClass_of_methodNamed B.named, hE, hLo, B.notSynchronized⟩
  have S : S2 g s σ R L s.heap [] := ⟨hWd, va_S.rf⟩
  have hx := C.1
  have hb := C.2.1
  have hl := lv_entry ([.ref (gb g + x0), .int x1, .int x2]) (n := 5) (Nat.le_of_ble_eq_true rfl)
  rw [lg_entry_eq]
  generalize (lg_sl ([.ref (gb g + x0), .int x1, .int x2]) ++ List.replicate (5 - (lg_sl ([.ref (gb g + x0), .int x1, .int x2])).length) Slot.unset).toArray = ls at hl ⊢
  have hl : lv_has ls 5 [(0, .ref (gb g + x0)), (1, .int x1), (2, .int x2)] := hl
  generalize hH : s.heap = H at S ⊢
  generalize hlc : ([] : List Loc) = locs at S ⊢
  rw [f_X11_schedule] at h
  refine lv_aload_n hx hb dX11_schedule_0 rfl (lv_at hl 0 rfl) ?_
  refine lv_iload_n hx hb dX11_schedule_1 rfl (lv_at hl 1 rfl) ?_
  rcases bdX_el h with ⟨a2, σ2, hc2, h⟩ | ⟨q2, σ2, hc2, hr2⟩
  · refine x_callXR C S KX11 hx0 (ok_X11_blastAt (L := L) hc2 hSh hx0) ⟨cd_X11_blastAt, ni_RX11, ml_RX11_125, in_X11_blastAt, sl_X11_blastAt⟩ ⟨by decide, by decide⟩ rfl (rm_ok (by decide) (by decide)) hl.1 rfl (Nat.le_of_ble_eq_true rfl) ⟨by decide, by decide⟩ dX11_schedule_2 hT ⟨by decide, by decide⟩ (fun H locs ho2 S => ?_)
    refine lv_astore_n (lv' := [(3, .ref (gb g + a2)), (0, .ref (gb g + x0)), (1, .int x1), (2, .int x2)]) hx hb dX11_schedule_5 rfl hl (by decide) rfl (fun ls hl => ?_)
    refine lv_aload_n hx hb dX11_schedule_6 rfl (lv_at hl 1 rfl) ?_
    refine lv_iload_n hx hb dX11_schedule_7 rfl (lv_at hl 3 rfl) ?_
    refine lv_iconst (v := (0 : Int32)) hx hb dX11_schedule_8 (by decide) ?_
    refine lv_sipush (v := (1439 : Int32)) hx hb dX11_schedule_9 (by decide) ?_
    rcases bdX_el h with ⟨a4, σ4, hc4, h⟩ | ⟨q4, σ4, hc4, hr4⟩
    · refine x_callXV C S KX11 hx0 (ok_X11_needRange (L := L) hc4 hSh hx0) ⟨cd_X11_needRange, ni_RX11, ml_RX11_176, in_X11_needRange, sl_X11_needRange⟩ ⟨by decide, by decide⟩ rfl (rm_ok (by decide) (by decide)) hl.1 rfl (Nat.le_of_ble_eq_true rfl) ⟨by decide, by decide⟩ dX11_schedule_12 hT ⟨by decide, by decide⟩ (fun H locs S => ?_)
      refine lv_aload_n hx hb dX11_schedule_15 rfl (lv_at hl 0 rfl) ?_
      refine x_getI C S KX0 ho2 13 (by decide) rfl rfl fl_RX11_231 dX11_schedule_16 ?_
      refine lv_if_ne (tgt := 31) hx hb dX11_schedule_19 (by decide) (fun c5 => ?_) (fun c5 => ?_)
      · have h := it_n c5 h
        exact w_X11_schedule_31 C hr hT hSh σ4 h H locs ls S (lv_sub hl [] rfl)
      · have h := it_p c5 h
        refine lv_aload_n hx hb dX11_schedule_22 rfl (lv_at hl 1 rfl) ?_
        refine lv_iload_n hx hb dX11_schedule_23 rfl (lv_at hl 2 rfl) ?_
        refine lv_iload_n hx hb dX11_schedule_24 rfl (lv_at hl 3 rfl) ?_
        obtain ⟨a6, σ6, hc6, h⟩ := bd_el h
        refine x_callVI C S KX11 hx0 (ok_X11_isAllowed (L := L) hc6 hSh hx0) ⟨cd_X11_isAllowed, ni_RX11, ml_RX11_242, in_X11_isAllowed, sl_X11_isAllowed⟩ ⟨by decide, by decide⟩ rfl (rm_ok (by decide) (by decide)) hl.1 rfl (Nat.le_of_ble_eq_true rfl) ⟨by decide, by decide⟩ dX11_schedule_25 (fun H locs S => ?_)
        refine lv_if_ne (tgt := 42) hx hb dX11_schedule_28 (by decide) (fun c7 => ?_) (fun c7 => ?_)
        · have h := it_n c7 h
          refine lv_aload_n hx hb dX11_schedule_42 rfl (lv_at hl 1 rfl) ?_
          have hR8 : Ok 194 (R x0 8) 9 := hSh x0 11 8 9 hx0.1 rfl
          refine x_getR C S KX11 hx0 8 (by decide) rfl rfl fl_RX11_61 hR8 dX11_schedule_43 ?_
          have hR9 : Ok 194 (R (R x0 8) 6) 10006 := hSh (R x0 8) 9 6 10006 hR8.1 rfl
          refine x_getR C S KX9 hR8 6 (by decide) rfl rfl fl_RX11_228 hR9 dX11_schedule_46 ?_
          refine lv_iload_n hx hb dX11_schedule_49 rfl (lv_at hl 2 rfl) ?_
          obtain ⟨hi10, h⟩ := ck_el h
          refine x_iald (len := 6) C S (by decide) hR9 hi10 dX11_schedule_50 ?_
          refine lv_istore (lv' := [(4, .int (σ6 (R (R x0 8) 6) x1.toNatClampNeg)), (3, .ref (gb g + a2)), (0, .ref (gb g + x0)), (1, .int x1), (2, .int x2)]) hx hb dX11_schedule_51 hl (by decide) rfl (fun ls hl => ?_)
          refine lv_aload_n hx hb dX11_schedule_53 rfl (lv_at hl 2 rfl) ?_
          obtain ⟨a11, σ11, hc11, h⟩ := bd_el h
          refine x_callVV C S KX11 hx0 (ok_X11_recordAction (L := L) hc11 hSh hx0) ⟨cd_X11_recordAction, ni_RX11, ml_RX11_262, in_X11_recordAction, sl_X11_recordAction⟩ ⟨by decide, by decide⟩ rfl (rm_ok (by decide) (by decide)) hl.1 rfl (Nat.le_of_ble_eq_true rfl) ⟨by decide, by decide⟩ dX11_schedule_54 (fun H locs S => ?_)
          refine lv_aload_n hx hb dX11_schedule_57 rfl (lv_at hl 2 rfl) ?_
          have hR12 : Ok 194 (R x0 8) 9 := hSh x0 11 8 9 hx0.1 rfl
          refine x_getR C S KX11 hx0 8 (by decide) rfl rfl fl_RX11_61 hR12 dX11_schedule_58 ?_
          have hR13 : Ok 194 (R (R x0 8) 6) 10006 := hSh (R x0 8) 9 6 10006 hR12.1 rfl
          refine x_getR C S KX9 hR12 6 (by decide) rfl rfl fl_RX11_228 hR13 dX11_schedule_61 ?_
          refine lv_iload_n hx hb dX11_schedule_64 rfl (lv_at hl 3 rfl) ?_
          refine lv_iload_n hx hb dX11_schedule_65 rfl (lv_at hl 4 rfl) ?_
          obtain ⟨hi14, h⟩ := ck_el h
          obtain ⟨σ15, hs15, h⟩ := sq_el h
          refine x_iast (len := 6) C S (by decide) hR13 hi14 dX11_schedule_66 hs15 (fun H locs S => ?_)
          refine lv_iload hx hb dX11_schedule_67 (lv_at hl 0 rfl) ?_
          exact x_iretX C S hr (by decide) (by decide) h dX11_schedule_69
        · have h := it_p c7 h
          exact w_X11_schedule_31 C hr hT hSh σ6 h H locs ls S (lv_sub hl [] rfl)
    · exact x_callXX C S KX11 hx0 (ok_X11_needRange (L := L) hc4 hSh hx0) n_PVX ⟨cd_X11_needRange, ni_RX11, ml_RX11_176, in_X11_needRange, sl_X11_needRange⟩ ⟨by decide, by decide⟩ rfl (rm_ok (by decide) (by decide)) hl.1 rfl (Nat.le_of_ble_eq_true rfl) ⟨by decide, by decide⟩ dX11_schedule_12 hT ⟨by decide, by decide⟩ hr4
  · exact x_callXX C S KX11 hx0 (ok_X11_blastAt (L := L) hc2 hSh hx0) n_PRX ⟨cd_X11_blastAt, ni_RX11, ml_RX11_125, in_X11_blastAt, sl_X11_blastAt⟩ ⟨by decide, by decide⟩ rfl (rm_ok (by decide) (by decide)) hl.1 rfl (Nat.le_of_ble_eq_true rfl) ⟨by decide, by decide⟩ dX11_schedule_2 hT ⟨by decide, by decide⟩ hr2
theorem dX11_sirenMinute_0 : decode cX11_sirenMinute 0 = .ok (.aload_n 0, 1) := by decide +kernel
theorem dX11_sirenMinute_1 : decode cX11_sirenMinute 1 = .ok (.iload_n 1, 1) := by decide +kernel
theorem dX11_sirenMinute_2 : decode cX11_sirenMinute 2 = .ok (.invokevirtual 312, 3) := by decide +kernel
theorem dX11_sirenMinute_5 : decode cX11_sirenMinute 5 = .ok (.invokestatic 315, 3) := by decide +kernel
theorem dX11_sirenMinute_8 : decode cX11_sirenMinute 8 = .ok (.ireturn, 1) := by decide +kernel
def f_X11_sirenMinute (N : Nat) (R : Nat → Nat → Nat) (σ : SI) (x0 : Nat) (x1 : Int32) : Option ((Int32 ⊕ Nat) × SI) := bdX (f_X11_sirenAt N R σ x0 x1) (fun a2 σ2 => bd (f_X8_minuteOf N R σ2 a2) (fun a3 σ3 => some (.inl a3, σ3)))
set_option maxHeartbeats 4000000 in
set_option maxRecDepth 100000 in
theorem ok_X11_sirenMinute {l : Launch} {g : GL} {R : Nat → Nat → Nat} {L : Nat → Nat → Int64} {N : Nat} {σ : SI} {x0 : Nat} {x1 : Int32} {r : ((Int32 ⊕ Nat) × SI)} (h : f_X11_sirenMinute N R σ x0 x1 = some r) (hSh : ShR R) (hx0 : Ok 194 x0 11) : CtX l g 7 yX11_sirenMinute cX11_sirenMinute 2 (some .int) 194 194 1 6 [.ref (gb g + x0), .int x1] (mkS σ R L) (PIX R L r) (PX R L r) := by
  refine vx_ofW (cc := cX11_sirenMinute) (maxL := 2) (ret := (some .int)) (by decide) rfl ?_
  intro p e s m args below meth c s₁ B hml hT hv
  obtain ⟨rfl, hE, hLo, hWd⟩ := hv
  have hr : meth.sig.returnType = (some .int) := B.returns
  have C : Cx l g p s m meth c cX11_sirenMinute 2 RX11 := ⟨B.exec, B.bytes, hml, findClass_of_methodNamed B.named, hE, hLo, B.notSynchronized⟩
  have S : S2 g s σ R L s.heap [] := ⟨hWd, va_S.rf⟩
  have hx := C.1
  have hb := C.2.1
  have hl := lv_entry ([.ref (gb g + x0), .int x1]) (n := 2) (Nat.le_of_ble_eq_true rfl)
  rw [lg_entry_eq]
  generalize (lg_sl ([.ref (gb g + x0), .int x1]) ++ List.replicate (2 - (lg_sl ([.ref (gb g + x0), .int x1])).length) Slot.unset).toArray = ls at hl ⊢
  have hl : lv_has ls 2 [(0, .ref (gb g + x0)), (1, .int x1)] := hl
  generalize hH : s.heap = H at S ⊢
  generalize hlc : ([] : List Loc) = locs at S ⊢
  rw [f_X11_sirenMinute] at h
  refine lv_aload_n hx hb dX11_sirenMinute_0 rfl (lv_at hl 0 rfl) ?_
  refine lv_iload_n hx hb dX11_sirenMinute_1 rfl (lv_at hl 1 rfl) ?_
  rcases bdX_el h with ⟨a2, σ2, hc2, h⟩ | ⟨q2, σ2, hc2, hr2⟩
  · refine x_callXI C S KX11 hx0 (ok_X11_sirenAt (L := L) hc2 hSh hx0) ⟨cd_X11_sirenAt, ni_RX11, ml_RX11_312, in_X11_sirenAt, sl_X11_sirenAt⟩ ⟨by decide, by decide⟩ rfl (rm_ok (by decide) (by decide)) hl.1 rfl (Nat.le_of_ble_eq_true rfl) ⟨by decide, by decide⟩ dX11_sirenMinute_2 hT ⟨by decide, by decide⟩ (fun H locs S => ?_)
    obtain ⟨a3, σ3, hc3, h⟩ := bd_el h
    refine x_callSI C S (ok_X8_minuteOf (L := L) hc3 hSh) ⟨cd_X8_minuteOf, ni_RX8, ml_RX11_315, st_X8_minuteOf⟩ ⟨by decide, by decide⟩ rfl (rm_ok (by decide) (by decide)) hl.1 rfl (Nat.le_of_ble_eq_true rfl) ⟨by decide, by decide⟩ dX11_sirenMinute_5 (fun H locs S => ?_)
    exact x_iretX C S hr (by decide) (by decide) h dX11_sirenMinute_8
  · exact x_callXX C S KX11 hx0 (ok_X11_sirenAt (L := L) hc2 hSh hx0) n_PIX ⟨cd_X11_sirenAt, ni_RX11, ml_RX11_312, in_X11_sirenAt, sl_X11_sirenAt⟩ ⟨by decide, by decide⟩ rfl (rm_ok (by decide) (by decide)) hl.1 rfl (Nat.le_of_ble_eq_true rfl) ⟨by decide, by decide⟩ dX11_sirenMinute_2 hT ⟨by decide, by decide⟩ hr2
theorem dX11_sirenKind_0 : decode cX11_sirenKind 0 = .ok (.aload_n 0, 1) := by decide +kernel
theorem dX11_sirenKind_1 : decode cX11_sirenKind 1 = .ok (.iload_n 1, 1) := by decide +kernel
theorem dX11_sirenKind_2 : decode cX11_sirenKind 2 = .ok (.invokevirtual 312, 3) := by decide +kernel
theorem dX11_sirenKind_5 : decode cX11_sirenKind 5 = .ok (.invokestatic 318, 3) := by decide +kernel
theorem dX11_sirenKind_8 : decode cX11_sirenKind 8 = .ok (.ireturn, 1) := by decide +kernel
def f_X11_sirenKind (N : Nat) (R : Nat → Nat → Nat) (σ : SI) (x0 : Nat) (x1 : Int32) : Option ((Int32 ⊕ Nat) × SI) := bdX (f_X11_sirenAt N R σ x0 x1) (fun a2 σ2 => bd (f_X8_kindOf N R σ2 a2) (fun a3 σ3 => some (.inl a3, σ3)))
set_option maxHeartbeats 4000000 in
set_option maxRecDepth 100000 in
theorem ok_X11_sirenKind {l : Launch} {g : GL} {R : Nat → Nat → Nat} {L : Nat → Nat → Int64} {N : Nat} {σ : SI} {x0 : Nat} {x1 : Int32} {r : ((Int32 ⊕ Nat) × SI)} (h : f_X11_sirenKind N R σ x0 x1 = some r) (hSh : ShR R) (hx0 : Ok 194 x0 11) : CtX l g 7 yX11_sirenKind cX11_sirenKind 2 (some .int) 194 194 1 6 [.ref (gb g + x0), .int x1] (mkS σ R L) (PIX R L r) (PX R L r) := by
  refine vx_ofW (cc := cX11_sirenKind) (maxL := 2) (ret := (some .int)) (by decide) rfl ?_
  intro p e s m args below meth c s₁ B hml hT hv
  obtain ⟨rfl, hE, hLo, hWd⟩ := hv
  have hr : meth.sig.returnType = (some .int) := B.returns
  have C : Cx l g p s m meth c cX11_sirenKind 2 RX11 := ⟨B.exec, B.bytes, hml, findClass_of_methodNamed B.named, hE, hLo, B.notSynchronized⟩
  have S : S2 g s σ R L s.heap [] := ⟨hWd, va_S.rf⟩
  have hx := C.1
  have hb := C.2.1
  have hl := lv_entry ([.ref (gb g + x0), .int x1]) (n := 2) (Nat.le_of_ble_eq_true rfl)
  rw [lg_entry_eq]
  generalize (lg_sl ([.ref (gb g + x0), .int x1]) ++ List.replicate (2 - (lg_sl ([.ref (gb g + x0), .int x1])).length) Slot.unset).toArray = ls at hl ⊢
  have hl : lv_has ls 2 [(0, .ref (gb g + x0)), (1, .int x1)] := hl
  generalize hH : s.heap = H at S ⊢
  generalize hlc : ([] : List Loc) = locs at S ⊢
  rw [f_X11_sirenKind] at h
  refine lv_aload_n hx hb dX11_sirenKind_0 rfl (lv_at hl 0 rfl) ?_
  refine lv_iload_n hx hb dX11_sirenKind_1 rfl (lv_at hl 1 rfl) ?_
  rcases bdX_el h with ⟨a2, σ2, hc2, h⟩ | ⟨q2, σ2, hc2, hr2⟩
  · refine x_callXI C S KX11 hx0 (ok_X11_sirenAt (L := L) hc2 hSh hx0) ⟨cd_X11_sirenAt, ni_RX11, ml_RX11_312, in_X11_sirenAt, sl_X11_sirenAt⟩ ⟨by decide, by decide⟩ rfl (rm_ok (by decide) (by decide)) hl.1 rfl (Nat.le_of_ble_eq_true rfl) ⟨by decide, by decide⟩ dX11_sirenKind_2 hT ⟨by decide, by decide⟩ (fun H locs S => ?_)
    obtain ⟨a3, σ3, hc3, h⟩ := bd_el h
    refine x_callSI C S (ok_X8_kindOf (L := L) hc3 hSh) ⟨cd_X8_kindOf, ni_RX8, ml_RX11_318, st_X8_kindOf⟩ ⟨by decide, by decide⟩ rfl (rm_ok (by decide) (by decide)) hl.1 rfl (Nat.le_of_ble_eq_true rfl) ⟨by decide, by decide⟩ dX11_sirenKind_5 (fun H locs S => ?_)
    exact x_iretX C S hr (by decide) (by decide) h dX11_sirenKind_8
  · exact x_callXX C S KX11 hx0 (ok_X11_sirenAt (L := L) hc2 hSh hx0) n_PIX ⟨cd_X11_sirenAt, ni_RX11, ml_RX11_312, in_X11_sirenAt, sl_X11_sirenAt⟩ ⟨by decide, by decide⟩ rfl (rm_ok (by decide) (by decide)) hl.1 rfl (Nat.le_of_ble_eq_true rfl) ⟨by decide, by decide⟩ dX11_sirenKind_2 hT ⟨by decide, by decide⟩ hr2
theorem dX11_sirenBlast_0 : decode cX11_sirenBlast 0 = .ok (.aload_n 0, 1) := by decide +kernel
theorem dX11_sirenBlast_1 : decode cX11_sirenBlast 1 = .ok (.iload_n 1, 1) := by decide +kernel
theorem dX11_sirenBlast_2 : decode cX11_sirenBlast 2 = .ok (.invokevirtual 312, 3) := by decide +kernel
theorem dX11_sirenBlast_5 : decode cX11_sirenBlast 5 = .ok (.invokestatic 321, 3) := by decide +kernel
theorem dX11_sirenBlast_8 : decode cX11_sirenBlast 8 = .ok (.ireturn, 1) := by decide +kernel
def f_X11_sirenBlast (N : Nat) (R : Nat → Nat → Nat) (σ : SI) (x0 : Nat) (x1 : Int32) : Option ((Int32 ⊕ Nat) × SI) := bdX (f_X11_sirenAt N R σ x0 x1) (fun a2 σ2 => bd (f_X8_blastOf N R σ2 a2) (fun a3 σ3 => some (.inl a3, σ3)))
set_option maxHeartbeats 4000000 in
set_option maxRecDepth 100000 in
theorem ok_X11_sirenBlast {l : Launch} {g : GL} {R : Nat → Nat → Nat} {L : Nat → Nat → Int64} {N : Nat} {σ : SI} {x0 : Nat} {x1 : Int32} {r : ((Int32 ⊕ Nat) × SI)} (h : f_X11_sirenBlast N R σ x0 x1 = some r) (hSh : ShR R) (hx0 : Ok 194 x0 11) : CtX l g 7 yX11_sirenBlast cX11_sirenBlast 2 (some .int) 194 194 1 6 [.ref (gb g + x0), .int x1] (mkS σ R L) (PIX R L r) (PX R L r) := by
  refine vx_ofW (cc := cX11_sirenBlast) (maxL := 2) (ret := (some .int)) (by decide) rfl ?_
  intro p e s m args below meth c s₁ B hml hT hv
  obtain ⟨rfl, hE, hLo, hWd⟩ := hv
  have hr : meth.sig.returnType = (some .int) := B.returns
  have C : Cx l g p s m meth c cX11_sirenBlast 2 RX11 := ⟨B.exec, B.bytes, hml, findClass_of_methodNamed B.named, hE, hLo, B.notSynchronized⟩
  have S : S2 g s σ R L s.heap [] := ⟨hWd, va_S.rf⟩
  have hx := C.1
  have hb := C.2.1
  have hl := lv_entry ([.ref (gb g + x0), .int x1]) (n := 2) (Nat.le_of_ble_eq_true rfl)
  rw [lg_entry_eq]
  generalize (lg_sl ([.ref (gb g + x0), .int x1]) ++ List.replicate (2 - (lg_sl ([.ref (gb g + x0), .int x1])).length) Slot.unset).toArray = ls at hl ⊢
  have hl : lv_has ls 2 [(0, .ref (gb g + x0)), (1, .int x1)] := hl
  generalize hH : s.heap = H at S ⊢
  generalize hlc : ([] : List Loc) = locs at S ⊢
  rw [f_X11_sirenBlast] at h
  refine lv_aload_n hx hb dX11_sirenBlast_0 rfl (lv_at hl 0 rfl) ?_
  refine lv_iload_n hx hb dX11_sirenBlast_1 rfl (lv_at hl 1 rfl) ?_
  rcases bdX_el h with ⟨a2, σ2, hc2, h⟩ | ⟨q2, σ2, hc2, hr2⟩
  · refine x_callXI C S KX11 hx0 (ok_X11_sirenAt (L := L) hc2 hSh hx0) ⟨cd_X11_sirenAt, ni_RX11, ml_RX11_312, in_X11_sirenAt, sl_X11_sirenAt⟩ ⟨by decide, by decide⟩ rfl (rm_ok (by decide) (by decide)) hl.1 rfl (Nat.le_of_ble_eq_true rfl) ⟨by decide, by decide⟩ dX11_sirenBlast_2 hT ⟨by decide, by decide⟩ (fun H locs S => ?_)
    obtain ⟨a3, σ3, hc3, h⟩ := bd_el h
    refine x_callSI C S (ok_X8_blastOf (L := L) hc3 hSh) ⟨cd_X8_blastOf, ni_RX8, ml_RX11_321, st_X8_blastOf⟩ ⟨by decide, by decide⟩ rfl (rm_ok (by decide) (by decide)) hl.1 rfl (Nat.le_of_ble_eq_true rfl) ⟨by decide, by decide⟩ dX11_sirenBlast_5 (fun H locs S => ?_)
    exact x_iretX C S hr (by decide) (by decide) h dX11_sirenBlast_8
  · exact x_callXX C S KX11 hx0 (ok_X11_sirenAt (L := L) hc2 hSh hx0) n_PIX ⟨cd_X11_sirenAt, ni_RX11, ml_RX11_312, in_X11_sirenAt, sl_X11_sirenAt⟩ ⟨by decide, by decide⟩ rfl (rm_ok (by decide) (by decide)) hl.1 rfl (Nat.le_of_ble_eq_true rfl) ⟨by decide, by decide⟩ dX11_sirenBlast_2 hT ⟨by decide, by decide⟩ hr2
theorem dX11_format_0 : decode cX11_format 0 = .ok (.aload_n 0, 1) := by decide +kernel
theorem dX11_format_1 : decode cX11_format 1 = .ok (.iload_n 1, 1) := by decide +kernel
theorem dX11_format_2 : decode cX11_format 2 = .ok (.invokevirtual 125, 3) := by decide +kernel
theorem dX11_format_5 : decode cX11_format 5 = .ok (.astore_n 2, 1) := by decide +kernel
theorem dX11_format_6 : decode cX11_format 6 = .ok (.aload_n 0, 1) := by decide +kernel
theorem dX11_format_7 : decode cX11_format 7 = .ok (.getfield 40, 3) := by decide +kernel
theorem dX11_format_10 : decode cX11_format 10 = .ok (.aload_n 0, 1) := by decide +kernel
theorem dX11_format_11 : decode cX11_format 11 = .ok (.getfield 61, 3) := by decide +kernel
theorem dX11_format_14 : decode cX11_format 14 = .ok (.getfield 344, 3) := by decide +kernel
theorem dX11_format_17 : decode cX11_format 17 = .ok (.iload_n 1, 1) := by decide +kernel
theorem dX11_format_18 : decode cX11_format 18 = .ok (.iaload, 1) := by decide +kernel
theorem dX11_format_19 : decode cX11_format 19 = .ok (.aload_n 0, 1) := by decide +kernel
theorem dX11_format_20 : decode cX11_format 20 = .ok (.getfield 61, 3) := by decide +kernel
theorem dX11_format_23 : decode cX11_format 23 = .ok (.getfield 228, 3) := by decide +kernel
theorem dX11_format_26 : decode cX11_format 26 = .ok (.iload_n 1, 1) := by decide +kernel
theorem dX11_format_27 : decode cX11_format 27 = .ok (.iaload, 1) := by decide +kernel
theorem dX11_format_28 : decode cX11_format 28 = .ok (.aload_n 2, 1) := by decide +kernel
theorem dX11_format_29 : decode cX11_format 29 = .ok (.invokevirtual 347, 3) := by decide +kernel
theorem dX11_format_32 : decode cX11_format 32 = .ok (.aload_n 0, 1) := by decide +kernel
theorem dX11_format_33 : decode cX11_format 33 = .ok (.getfield 40, 3) := by decide +kernel
theorem dX11_format_36 : decode cX11_format 36 = .ok (.getfield 351, 3) := by decide +kernel
theorem dX11_format_39 : decode cX11_format 39 = .ok (.ireturn, 1) := by decide +kernel
def f_X11_format (N : Nat) (R : Nat → Nat → Nat) (σ : SI) (x0 : Nat) (x1 : Int32) : Option ((Int32 ⊕ Nat) × SI) := bdX (f_X11_blastAt N R σ x0 x1) (fun a2 σ2 => ck x1 6 (ck x1 6 (bd (f_X1_write N R σ2 (R x0 4) (σ2 (R (R x0 8) 5) x1.toNatClampNeg) (σ2 (R (R x0 8) 6) x1.toNatClampNeg) a2) (fun _ σ10 => some (.inl (σ10 (R x0 4) 1), σ10)))))
set_option maxHeartbeats 4000000 in
set_option maxRecDepth 100000 in
theorem ok_X11_format {l : Launch} {g : GL} {R : Nat → Nat → Nat} {L : Nat → Nat → Int64} {N : Nat} {σ : SI} {x0 : Nat} {x1 : Int32} {r : ((Int32 ⊕ Nat) × SI)} (h : f_X11_format N R σ x0 x1 = some r) (hSh : ShR R) (hx0 : Ok 194 x0 11) : CtX l g 8 yX11_format cX11_format 3 (some .int) 194 194 1 6 [.ref (gb g + x0), .int x1] (mkS σ R L) (PIX R L r) (PX R L r) := by
  refine vx_ofW (cc := cX11_format) (maxL := 3) (ret := (some .int)) (by decide) rfl ?_
  intro p e s m args below meth c s₁ B hml hT hv
  obtain ⟨rfl, hE, hLo, hWd⟩ := hv
  have hr : meth.sig.returnType = (some .int) := B.returns
  have C : Cx l g p s m meth c cX11_format 3 RX11 := ⟨B.exec, B.bytes, hml, findClass_of_methodNamed B.named, hE, hLo, B.notSynchronized⟩
  have S : S2 g s σ R L s.heap [] := ⟨hWd, va_S.rf⟩
  have hx := C.1
  have hb := C.2.1
  have hl := lv_entry ([.ref (gb g + x0), .int x1]) (n := 3) (Nat.le_of_ble_eq_true rfl)
  rw [lg_entry_eq]
  generalize (lg_sl ([.ref (gb g + x0), .int x1]) ++ List.replicate (3 - (lg_sl ([.ref (gb g + x0), .int x1])).length) Slot.unset).toArray = ls at hl ⊢
  have hl : lv_has ls 3 [(0, .ref (gb g + x0)), (1, .int x1)] := hl
  generalize hH : s.heap = H at S ⊢
  generalize hlc : ([] : List Loc) = locs at S ⊢
  rw [f_X11_format] at h
  refine lv_aload_n hx hb dX11_format_0 rfl (lv_at hl 0 rfl) ?_
  refine lv_iload_n hx hb dX11_format_1 rfl (lv_at hl 1 rfl) ?_
  rcases bdX_el h with ⟨a2, σ2, hc2, h⟩ | ⟨q2, σ2, hc2, hr2⟩
  · refine x_callXR C S KX11 hx0 (ok_X11_blastAt (L := L) hc2 hSh hx0) ⟨cd_X11_blastAt, ni_RX11, ml_RX11_125, in_X11_blastAt, sl_X11_blastAt⟩ ⟨by decide, by decide⟩ rfl (rm_ok (by decide) (by decide)) hl.1 rfl (Nat.le_of_ble_eq_true rfl) ⟨by decide, by decide⟩ dX11_format_2 hT ⟨by decide, by decide⟩ (fun H locs ho2 S => ?_)
    refine lv_astore_n (lv' := [(2, .ref (gb g + a2)), (0, .ref (gb g + x0)), (1, .int x1)]) hx hb dX11_format_5 rfl hl (by decide) rfl (fun ls hl => ?_)
    refine lv_aload_n hx hb dX11_format_6 rfl (lv_at hl 1 rfl) ?_
    have hR3 : Ok 194 (R x0 4) 1 := hSh x0 11 4 1 hx0.1 rfl
    refine x_getR C S KX11 hx0 4 (by decide) rfl rfl fl_RX11_40 hR3 dX11_format_7 ?_
    refine lv_aload_n hx hb dX11_format_10 rfl (lv_at hl 1 rfl) ?_
    have hR4 : Ok 194 (R x0 8) 9 := hSh x0 11 8 9 hx0.1 rfl
    refine x_getR C S KX11 hx0 8 (by decide) rfl rfl fl_RX11_61 hR4 dX11_format_11 ?_
    have hR5 : Ok 194 (R (R x0 8) 5) 10006 := hSh (R x0 8) 9 5 10006 hR4.1 rfl
    refine x_getR C S KX9 hR4 5 (by decide) rfl rfl fl_RX11_344 hR5 dX11_format_14 ?_
    refine lv_iload_n hx hb dX11_format_17 rfl (lv_at hl 2 rfl) ?_
    obtain ⟨hi6, h⟩ := ck_el h
    refine x_iald (len := 6) C S (by decide) hR5 hi6 dX11_format_18 ?_
    refine lv_aload_n hx hb dX11_format_19 rfl (lv_at hl 1 rfl) ?_
    have hR7 : Ok 194 (R x0 8) 9 := hSh x0 11 8 9 hx0.1 rfl
    refine x_getR C S KX11 hx0 8 (by decide) rfl rfl fl_RX11_61 hR7 dX11_format_20 ?_
    have hR8 : Ok 194 (R (R x0 8) 6) 10006 := hSh (R x0 8) 9 6 10006 hR7.1 rfl
    refine x_getR C S KX9 hR7 6 (by decide) rfl rfl fl_RX11_228 hR8 dX11_format_23 ?_
    refine lv_iload_n hx hb dX11_format_26 rfl (lv_at hl 2 rfl) ?_
    obtain ⟨hi9, h⟩ := ck_el h
    refine x_iald (len := 6) C S (by decide) hR8 hi9 dX11_format_27 ?_
    refine lv_aload_n hx hb dX11_format_28 rfl (lv_at hl 0 rfl) ?_
    obtain ⟨a10, σ10, hc10, h⟩ := bd_el h
    refine x_callVV C S KX1 hR3 (ok_X1_write (L := L) hc10 hSh hR3 ho2) ⟨cd_X1_write, ni_RX1, ml_RX11_347, in_X1_write, sl_X1_write⟩ ⟨by decide, by decide⟩ rfl (rm_ok (by decide) (by decide)) hl.1 rfl (Nat.le_of_ble_eq_true rfl) ⟨by decide, by decide⟩ dX11_format_29 (fun H locs S => ?_)
    refine lv_aload_n hx hb dX11_format_32 rfl (lv_at hl 1 rfl) ?_
    have hR11 : Ok 194 (R x0 4) 1 := hSh x0 11 4 1 hx0.1 rfl
    refine x_getR C S KX11 hx0 4 (by decide) rfl rfl fl_RX11_40 hR11 dX11_format_33 ?_
    refine x_getI C S KX1 hR11 1 (by decide) rfl rfl fl_RX11_351 dX11_format_36 ?_
    exact x_iretX C S hr (by decide) (by decide) h dX11_format_39
  · exact x_callXX C S KX11 hx0 (ok_X11_blastAt (L := L) hc2 hSh hx0) n_PRX ⟨cd_X11_blastAt, ni_RX11, ml_RX11_125, in_X11_blastAt, sl_X11_blastAt⟩ ⟨by decide, by decide⟩ rfl (rm_ok (by decide) (by decide)) hl.1 rfl (Nat.le_of_ble_eq_true rfl) ⟨by decide, by decide⟩ dX11_format_2 hT ⟨by decide, by decide⟩ hr2
theorem dX5_parseSetting_0 : decode cX5_parseSetting 0 = .ok (.aload_n 0, 1) := by decide +kernel
theorem dX5_parseSetting_1 : decode cX5_parseSetting 1 = .ok (.getfield 12, 3) := by decide +kernel
theorem dX5_parseSetting_4 : decode cX5_parseSetting 4 = .ok (.ldc 71, 2) := by decide +kernel
theorem dX5_parseSetting_6 : decode cX5_parseSetting 6 = .ok (.invokevirtual 50, 3) := by decide +kernel
theorem dX5_parseSetting_9 : decode cX5_parseSetting 9 = .ok (.ifCond .eq 39, 3) := by decide +kernel
theorem dX5_parseSetting_12 : decode cX5_parseSetting 12 = .ok (.aload_n 1, 1) := by decide +kernel
theorem dX5_parseSetting_13 : decode cX5_parseSetting 13 = .ok (.aload_n 0, 1) := by decide +kernel
theorem dX5_parseSetting_14 : decode cX5_parseSetting 14 = .ok (.getfield 12, 3) := by decide +kernel
theorem dX5_parseSetting_17 : decode cX5_parseSetting 17 = .ok (.iconst 0, 1) := by decide +kernel
theorem dX5_parseSetting_18 : decode cX5_parseSetting 18 = .ok (.sipush 1439, 3) := by decide +kernel
theorem dX5_parseSetting_21 : decode cX5_parseSetting 21 = .ok (.invokevirtual 73, 3) := by decide +kernel
theorem dX5_parseSetting_24 : decode cX5_parseSetting 24 = .ok (.putfield 77, 3) := by decide +kernel
theorem dX5_parseSetting_27 : decode cX5_parseSetting 27 = .ok (.aload_n 1, 1) := by decide +kernel
theorem dX5_parseSetting_28 : decode cX5_parseSetting 28 = .ok (.aload_n 0, 1) := by decide +kernel
theorem dX5_parseSetting_29 : decode cX5_parseSetting 29 = .ok (.getfield 12, 3) := by decide +kernel
theorem dX5_parseSetting_32 : decode cX5_parseSetting 32 = .ok (.aload_n 1, 1) := by decide +kernel
theorem dX5_parseSetting_33 : decode cX5_parseSetting 33 = .ok (.getfield 77, 3) := by decide +kernel
theorem dX5_parseSetting_36 : decode cX5_parseSetting 36 = .ok (.sipush 1439, 3) := by decide +kernel
theorem dX5_parseSetting_39 : decode cX5_parseSetting 39 = .ok (.invokevirtual 73, 3) := by decide +kernel
theorem dX5_parseSetting_42 : decode cX5_parseSetting 42 = .ok (.putfield 80, 3) := by decide +kernel
theorem dX5_parseSetting_45 : decode cX5_parseSetting 45 = .ok (.goto 134, 3) := by decide +kernel
theorem dX5_parseSetting_48 : decode cX5_parseSetting 48 = .ok (.aload_n 0, 1) := by decide +kernel
theorem dX5_parseSetting_49 : decode cX5_parseSetting 49 = .ok (.getfield 12, 3) := by decide +kernel
theorem dX5_parseSetting_52 : decode cX5_parseSetting 52 = .ok (.ldc 83, 2) := by decide +kernel
theorem dX5_parseSetting_54 : decode cX5_parseSetting 54 = .ok (.invokevirtual 50, 3) := by decide +kernel
theorem dX5_parseSetting_57 : decode cX5_parseSetting 57 = .ok (.ifCond .eq 21, 3) := by decide +kernel
theorem dX5_parseSetting_60 : decode cX5_parseSetting 60 = .ok (.aload_n 1, 1) := by decide +kernel
theorem dX5_parseSetting_61 : decode cX5_parseSetting 61 = .ok (.aload_n 0, 1) := by decide +kernel
theorem dX5_parseSetting_62 : decode cX5_parseSetting 62 = .ok (.getfield 12, 3) := by decide +kernel
theorem dX5_parseSetting_65 : decode cX5_parseSetting 65 = .ok (.iconst 1, 1) := by decide +kernel
theorem dX5_parseSetting_66 : decode cX5_parseSetting 66 = .ok (.sipush 240, 3) := by decide +kernel
theorem dX5_parseSetting_69 : decode cX5_parseSetting 69 = .ok (.invokevirtual 73, 3) := by decide +kernel
theorem dX5_parseSetting_72 : decode cX5_parseSetting 72 = .ok (.putfield 85, 3) := by decide +kernel
theorem dX5_parseSetting_75 : decode cX5_parseSetting 75 = .ok (.goto 104, 3) := by decide +kernel
theorem dX5_parseSetting_78 : decode cX5_parseSetting 78 = .ok (.aload_n 0, 1) := by decide +kernel
theorem dX5_parseSetting_79 : decode cX5_parseSetting 79 = .ok (.getfield 12, 3) := by decide +kernel
theorem dX5_parseSetting_82 : decode cX5_parseSetting 82 = .ok (.ldc 87, 2) := by decide +kernel
theorem dX5_parseSetting_84 : decode cX5_parseSetting 84 = .ok (.invokevirtual 50, 3) := by decide +kernel
theorem dX5_parseSetting_87 : decode cX5_parseSetting 87 = .ok (.ifCond .eq 34, 3) := by decide +kernel
theorem dX5_parseSetting_90 : decode cX5_parseSetting 90 = .ok (.aload_n 1, 1) := by decide +kernel
theorem dX5_parseSetting_91 : decode cX5_parseSetting 91 = .ok (.aload_n 0, 1) := by decide +kernel
theorem dX5_parseSetting_92 : decode cX5_parseSetting 92 = .ok (.getfield 12, 3) := by decide +kernel
theorem dX5_parseSetting_95 : decode cX5_parseSetting 95 = .ok (.iconst 0, 1) := by decide +kernel
theorem dX5_parseSetting_96 : decode cX5_parseSetting 96 = .ok (.bipush 60, 2) := by decide +kernel
theorem dX5_parseSetting_98 : decode cX5_parseSetting 98 = .ok (.invokevirtual 73, 3) := by decide +kernel
theorem dX5_parseSetting_101 : decode cX5_parseSetting 101 = .ok (.putfield 89, 3) := by decide +kernel
theorem dX5_parseSetting_104 : decode cX5_parseSetting 104 = .ok (.aload_n 1, 1) := by decide +kernel
theorem dX5_parseSetting_105 : decode cX5_parseSetting 105 = .ok (.aload_n 0, 1) := by decide +kernel
theorem dX5_parseSetting_106 : decode cX5_parseSetting 106 = .ok (.getfield 12, 3) := by decide +kernel
theorem dX5_parseSetting_109 : decode cX5_parseSetting 109 = .ok (.iconst 0, 1) := by decide +kernel
theorem dX5_parseSetting_110 : decode cX5_parseSetting 110 = .ok (.bipush 60, 2) := by decide +kernel
theorem dX5_parseSetting_112 : decode cX5_parseSetting 112 = .ok (.invokevirtual 73, 3) := by decide +kernel
theorem dX5_parseSetting_115 : decode cX5_parseSetting 115 = .ok (.putfield 92, 3) := by decide +kernel
theorem dX5_parseSetting_118 : decode cX5_parseSetting 118 = .ok (.goto 61, 3) := by decide +kernel
theorem dX5_parseSetting_121 : decode cX5_parseSetting 121 = .ok (.aload_n 0, 1) := by decide +kernel
theorem dX5_parseSetting_122 : decode cX5_parseSetting 122 = .ok (.getfield 12, 3) := by decide +kernel
theorem dX5_parseSetting_125 : decode cX5_parseSetting 125 = .ok (.ldc 95, 2) := by decide +kernel
theorem dX5_parseSetting_127 : decode cX5_parseSetting 127 = .ok (.invokevirtual 50, 3) := by decide +kernel
theorem dX5_parseSetting_130 : decode cX5_parseSetting 130 = .ok (.ifCond .eq 21, 3) := by decide +kernel
theorem dX5_parseSetting_133 : decode cX5_parseSetting 133 = .ok (.aload_n 1, 1) := by decide +kernel
theorem dX5_parseSetting_134 : decode cX5_parseSetting 134 = .ok (.aload_n 0, 1) := by decide +kernel
theorem dX5_parseSetting_135 : decode cX5_parseSetting 135 = .ok (.getfield 12, 3) := by decide +kernel
theorem dX5_parseSetting_138 : decode cX5_parseSetting 138 = .ok (.iconst 0, 1) := by decide +kernel
theorem dX5_parseSetting_139 : decode cX5_parseSetting 139 = .ok (.sipush 240, 3) := by decide +kernel
theorem dX5_parseSetting_142 : decode cX5_parseSetting 142 = .ok (.invokevirtual 73, 3) := by decide +kernel
theorem dX5_parseSetting_145 : decode cX5_parseSetting 145 = .ok (.putfield 97, 3) := by decide +kernel
theorem dX5_parseSetting_148 : decode cX5_parseSetting 148 = .ok (.goto 31, 3) := by decide +kernel
theorem dX5_parseSetting_151 : decode cX5_parseSetting 151 = .ok (.aload_n 0, 1) := by decide +kernel
theorem dX5_parseSetting_152 : decode cX5_parseSetting 152 = .ok (.getfield 12, 3) := by decide +kernel
theorem dX5_parseSetting_155 : decode cX5_parseSetting 155 = .ok (.ldc 100, 2) := by decide +kernel
theorem dX5_parseSetting_157 : decode cX5_parseSetting 157 = .ok (.invokevirtual 50, 3) := by decide +kernel
theorem dX5_parseSetting_160 : decode cX5_parseSetting 160 = .ok (.ifCond .eq 11, 3) := by decide +kernel
theorem dX5_parseSetting_163 : decode cX5_parseSetting 163 = .ok (.aload_n 0, 1) := by decide +kernel
theorem dX5_parseSetting_164 : decode cX5_parseSetting 164 = .ok (.aload_n 1, 1) := by decide +kernel
theorem dX5_parseSetting_165 : decode cX5_parseSetting 165 = .ok (.invokevirtual 102, 3) := by decide +kernel
theorem dX5_parseSetting_168 : decode cX5_parseSetting 168 = .ok (.goto 11, 3) := by decide +kernel
theorem dX5_parseSetting_171 : decode cX5_parseSetting 171 = .ok (.aload_n 0, 1) := by decide +kernel
theorem dX5_parseSetting_172 : decode cX5_parseSetting 172 = .ok (.getfield 12, 3) := by decide +kernel
theorem dX5_parseSetting_175 : decode cX5_parseSetting 175 = .ok (.iconst 0, 1) := by decide +kernel
theorem dX5_parseSetting_176 : decode cX5_parseSetting 176 = .ok (.invokevirtual 40, 3) := by decide +kernel
theorem dX5_parseSetting_179 : decode cX5_parseSetting 179 = .ok (.return_, 1) := by decide +kernel
def f_X5_parseSetting (N : Nat) (R : Nat → Nat → Nat) (σ : SI) (x0 : Nat) (x1 : Nat) : Option (Unit × SI) := bd (f_X10_tookWord N R σ (R x0 0) 5) (fun a2 σ2 => if a2 = 0 then (bd (f_X10_tookWord N R σ2 (R x0 0) 6) (fun a5 σ5 => if a5 = 0 then (bd (f_X10_tookWord N R σ5 (R x0 0) 7) (fun a8 σ8 => if a8 = 0 then (bd (f_X10_tookWord N R σ8 (R x0 0) 8) (fun a11 σ11 => if a11 = 0 then (bd (f_X10_tookWord N R σ11 (R x0 0) 9) (fun a14 σ14 => if a14 = 0 then (bd (f_X10_need N R σ14 (R x0 0) (0 : Int32)) (fun _ σ17 => some ((), σ17))) else (bd (f_X5_parseWind N R σ14 x0 x1) (fun _ σ18 => some ((), σ18))))) else (bd (f_X10_takeNumber N R σ11 (R x0 0) (0 : Int32) (240 : Int32)) (fun a20 σ20 => sq (up σ20 x1 17 a20) (fun σ21 => some ((), σ21)))))) else (bd (f_X10_takeNumber N R σ8 (R x0 0) (0 : Int32) (60 : Int32)) (fun a23 σ23 => sq (up σ23 x1 15 a23) (fun σ24 => bd (f_X10_takeNumber N R σ24 (R x0 0) (0 : Int32) (60 : Int32)) (fun a26 σ26 => sq (up σ26 x1 16 a26) (fun σ27 => some ((), σ27)))))))) else (bd (f_X10_takeNumber N R σ5 (R x0 0) (1 : Int32) (240 : Int32)) (fun a29 σ29 => sq (up σ29 x1 14 a29) (fun σ30 => some ((), σ30)))))) else (bd (f_X10_takeNumber N R σ2 (R x0 0) (0 : Int32) (1439 : Int32)) (fun a32 σ32 => sq (up σ32 x1 12 a32) (fun σ33 => bd (f_X10_takeNumber N R σ33 (R x0 0) (σ33 x1 12) (1439 : Int32)) (fun a35 σ35 => sq (up σ35 x1 13 a35) (fun σ36 => some ((), σ36)))))))
set_option maxHeartbeats 4000000 in
set_option maxRecDepth 100000 in
theorem ok_X5_parseSetting {l : Launch} {g : GL} {R : Nat → Nat → Nat} {L : Nat → Nat → Int64} {N : Nat} {σ : SI} {x0 : Nat} {x1 : Nat} {r : (Unit × SI)} (h : f_X5_parseSetting N R σ x0 x1 = some r) (hSh : ShR R) (hx0 : Ok 194 x0 5) (hx1 : Ok 194 x1 9) : Ct l g 6 yX5_parseSetting cX5_parseSetting 2 none 194 194 0 0 [.ref (gb g + x0), .ref (gb g + x1)] (mkS σ R L) (PV R L r) := by
  refine Met.ofW (cc := cX5_parseSetting) (maxL := 2) (ret := none) (by decide) rfl ?_
  intro p e s m args below meth c s₁ B hml hv
  obtain ⟨rfl, hE, hLo, hWd⟩ := hv
  have hr : meth.sig.returnType = none := B.returns
  have C : Cx l g p s m meth c cX5_parseSetting 2 RX5 := ⟨B.exec, B.bytes, hml, findClass_of_methodNamed B.named, hE, hLo, B.notSynchronized⟩
  have S : S2 g s σ R L s.heap [] := ⟨hWd, va_S.rf⟩
  have hx := C.1
  have hb := C.2.1
  have hl := lv_entry ([.ref (gb g + x0), .ref (gb g + x1)]) (n := 2) (Nat.le_of_ble_eq_true rfl)
  rw [lg_entry_eq]
  generalize (lg_sl ([.ref (gb g + x0), .ref (gb g + x1)]) ++ List.replicate (2 - (lg_sl ([.ref (gb g + x0), .ref (gb g + x1)])).length) Slot.unset).toArray = ls at hl ⊢
  have hl : lv_has ls 2 [(0, .ref (gb g + x0)), (1, .ref (gb g + x1))] := hl
  generalize hH : s.heap = H at S ⊢
  generalize hlc : ([] : List Loc) = locs at S ⊢
  rw [f_X5_parseSetting] at h
  refine lv_aload_n hx hb dX5_parseSetting_0 rfl (lv_at hl 0 rfl) ?_
  have hR1 : Ok 194 (R x0 0) 10 := hSh x0 5 0 10 hx0.1 rfl
  refine x_getR C S KX5 hx0 0 (by decide) rfl rfl fl_RX5_12 hR1 dX5_parseSetting_1 ?_
  refine x_ldcs C (k := 71) (tx := "day") (ia := 5) (by decide) dX5_parseSetting_4 ?_
  obtain ⟨a2, σ2, hc2, h⟩ := bd_el h
  refine x_callVI C S KX10 hR1 (ok_X10_tookWord (L := L) hc2 hSh hR1 (by decide)) ⟨cd_X10_tookWord, ni_RX10, ml_RX5_50, in_X10_tookWord, sl_X10_tookWord⟩ ⟨by decide, by decide⟩ rfl (rm_ok (by decide) (by decide)) hl.1 rfl (Nat.le_of_ble_eq_true rfl) ⟨by decide, by decide⟩ dX5_parseSetting_6 (fun H locs S => ?_)
  refine lv_if_eq (tgt := 48) hx hb dX5_parseSetting_9 (by decide) (fun c3 => ?_) (fun c3 => ?_)
  · have h := it_p c3 h
    refine lv_aload_n hx hb dX5_parseSetting_48 rfl (lv_at hl 0 rfl) ?_
    have hR4 : Ok 194 (R x0 0) 10 := hSh x0 5 0 10 hx0.1 rfl
    refine x_getR C S KX5 hx0 0 (by decide) rfl rfl fl_RX5_12 hR4 dX5_parseSetting_49 ?_
    refine x_ldcs C (k := 83) (tx := "step") (ia := 6) (by decide) dX5_parseSetting_52 ?_
    obtain ⟨a5, σ5, hc5, h⟩ := bd_el h
    refine x_callVI C S KX10 hR4 (ok_X10_tookWord (L := L) hc5 hSh hR4 (by decide)) ⟨cd_X10_tookWord, ni_RX10, ml_RX5_50, in_X10_tookWord, sl_X10_tookWord⟩ ⟨by decide, by decide⟩ rfl (rm_ok (by decide) (by decide)) hl.1 rfl (Nat.le_of_ble_eq_true rfl) ⟨by decide, by decide⟩ dX5_parseSetting_54 (fun H locs S => ?_)
    refine lv_if_eq (tgt := 78) hx hb dX5_parseSetting_57 (by decide) (fun c6 => ?_) (fun c6 => ?_)
    · have h := it_p c6 h
      refine lv_aload_n hx hb dX5_parseSetting_78 rfl (lv_at hl 0 rfl) ?_
      have hR7 : Ok 194 (R x0 0) 10 := hSh x0 5 0 10 hx0.1 rfl
      refine x_getR C S KX5 hx0 0 (by decide) rfl rfl fl_RX5_12 hR7 dX5_parseSetting_79 ?_
      refine x_ldcs C (k := 87) (tx := "close") (ia := 7) (by decide) dX5_parseSetting_82 ?_
      obtain ⟨a8, σ8, hc8, h⟩ := bd_el h
      refine x_callVI C S KX10 hR7 (ok_X10_tookWord (L := L) hc8 hSh hR7 (by decide)) ⟨cd_X10_tookWord, ni_RX10, ml_RX5_50, in_X10_tookWord, sl_X10_tookWord⟩ ⟨by decide, by decide⟩ rfl (rm_ok (by decide) (by decide)) hl.1 rfl (Nat.le_of_ble_eq_true rfl) ⟨by decide, by decide⟩ dX5_parseSetting_84 (fun H locs S => ?_)
      refine lv_if_eq (tgt := 121) hx hb dX5_parseSetting_87 (by decide) (fun c9 => ?_) (fun c9 => ?_)
      · have h := it_p c9 h
        refine lv_aload_n hx hb dX5_parseSetting_121 rfl (lv_at hl 0 rfl) ?_
        have hR10 : Ok 194 (R x0 0) 10 := hSh x0 5 0 10 hx0.1 rfl
        refine x_getR C S KX5 hx0 0 (by decide) rfl rfl fl_RX5_12 hR10 dX5_parseSetting_122 ?_
        refine x_ldcs C (k := 95) (tx := "space") (ia := 8) (by decide) dX5_parseSetting_125 ?_
        obtain ⟨a11, σ11, hc11, h⟩ := bd_el h
        refine x_callVI C S KX10 hR10 (ok_X10_tookWord (L := L) hc11 hSh hR10 (by decide)) ⟨cd_X10_tookWord, ni_RX10, ml_RX5_50, in_X10_tookWord, sl_X10_tookWord⟩ ⟨by decide, by decide⟩ rfl (rm_ok (by decide) (by decide)) hl.1 rfl (Nat.le_of_ble_eq_true rfl) ⟨by decide, by decide⟩ dX5_parseSetting_127 (fun H locs S => ?_)
        refine lv_if_eq (tgt := 151) hx hb dX5_parseSetting_130 (by decide) (fun c12 => ?_) (fun c12 => ?_)
        · have h := it_p c12 h
          refine lv_aload_n hx hb dX5_parseSetting_151 rfl (lv_at hl 0 rfl) ?_
          have hR13 : Ok 194 (R x0 0) 10 := hSh x0 5 0 10 hx0.1 rfl
          refine x_getR C S KX5 hx0 0 (by decide) rfl rfl fl_RX5_12 hR13 dX5_parseSetting_152 ?_
          refine x_ldcs C (k := 100) (tx := "wind") (ia := 9) (by decide) dX5_parseSetting_155 ?_
          obtain ⟨a14, σ14, hc14, h⟩ := bd_el h
          refine x_callVI C S KX10 hR13 (ok_X10_tookWord (L := L) hc14 hSh hR13 (by decide)) ⟨cd_X10_tookWord, ni_RX10, ml_RX5_50, in_X10_tookWord, sl_X10_tookWord⟩ ⟨by decide, by decide⟩ rfl (rm_ok (by decide) (by decide)) hl.1 rfl (Nat.le_of_ble_eq_true rfl) ⟨by decide, by decide⟩ dX5_parseSetting_157 (fun H locs S => ?_)
          refine lv_if_eq (tgt := 171) hx hb dX5_parseSetting_160 (by decide) (fun c15 => ?_) (fun c15 => ?_)
          · have h := it_p c15 h
            refine lv_aload_n hx hb dX5_parseSetting_171 rfl (lv_at hl 0 rfl) ?_
            have hR16 : Ok 194 (R x0 0) 10 := hSh x0 5 0 10 hx0.1 rfl
            refine x_getR C S KX5 hx0 0 (by decide) rfl rfl fl_RX5_12 hR16 dX5_parseSetting_172 ?_
            refine lv_iconst (v := (0 : Int32)) hx hb dX5_parseSetting_175 (by decide) ?_
            obtain ⟨a17, σ17, hc17, h⟩ := bd_el h
            refine x_callVV C S KX10 hR16 (ok_X10_need (L := L) hc17 hSh hR16) ⟨cd_X10_need, ni_RX10, ml_RX5_40, in_X10_need, sl_X10_need⟩ ⟨by decide, by decide⟩ rfl (rm_ok (by decide) (by decide)) hl.1 rfl (Nat.le_of_ble_eq_true rfl) ⟨by decide, by decide⟩ dX5_parseSetting_176 (fun H locs S => ?_)
            exact x_vret C S hr h dX5_parseSetting_179
          · have h := it_n c15 h
            refine lv_aload_n hx hb dX5_parseSetting_163 rfl (lv_at hl 0 rfl) ?_
            refine lv_aload_n hx hb dX5_parseSetting_164 rfl (lv_at hl 1 rfl) ?_
            obtain ⟨a18, σ18, hc18, h⟩ := bd_el h
            refine x_callVV C S KX5 hx0 (ok_X5_parseWind (L := L) hc18 hSh hx0 hx1) ⟨cd_X5_parseWind, ni_RX5, ml_RX5_102, in_X5_parseWind, sl_X5_parseWind⟩ ⟨by decide, by decide⟩ rfl (rm_ok (by decide) (by decide)) hl.1 rfl (Nat.le_of_ble_eq_true rfl) ⟨by decide, by decide⟩ dX5_parseSetting_165 (fun H locs S => ?_)
            refine lv_goto (tgt := 179) hx hb dX5_parseSetting_168 (by decide) ?_
            exact x_vret C S hr h dX5_parseSetting_179
        · have h := it_n c12 h
          refine lv_aload_n hx hb dX5_parseSetting_133 rfl (lv_at hl 1 rfl) ?_
          refine lv_aload_n hx hb dX5_parseSetting_134 rfl (lv_at hl 0 rfl) ?_
          have hR19 : Ok 194 (R x0 0) 10 := hSh x0 5 0 10 hx0.1 rfl
          refine x_getR C S KX5 hx0 0 (by decide) rfl rfl fl_RX5_12 hR19 dX5_parseSetting_135 ?_
          refine lv_iconst (v := (0 : Int32)) hx hb dX5_parseSetting_138 (by decide) ?_
          refine lv_sipush (v := (240 : Int32)) hx hb dX5_parseSetting_139 (by decide) ?_
          obtain ⟨a20, σ20, hc20, h⟩ := bd_el h
          refine x_callVI C S KX10 hR19 (ok_X10_takeNumber (L := L) hc20 hSh hR19) ⟨cd_X10_takeNumber, ni_RX10, ml_RX5_73, in_X10_takeNumber, sl_X10_takeNumber⟩ ⟨by decide, by decide⟩ rfl (rm_ok (by decide) (by decide)) hl.1 rfl (Nat.le_of_ble_eq_true rfl) ⟨by decide, by decide⟩ dX5_parseSetting_142 (fun H locs S => ?_)
          obtain ⟨σ21, hs21, h⟩ := sq_el h
          refine x_putI C S KX9 hx1 17 (by decide) rfl rfl rfl ⟨rfl, rfl⟩ fl_RX5_97 dX5_parseSetting_145 hs21 (fun H locs S => ?_)
          refine lv_goto (tgt := 179) hx hb dX5_parseSetting_148 (by decide) ?_
          exact x_vret C S hr h dX5_parseSetting_179
      · have h := it_n c9 h
        refine lv_aload_n hx hb dX5_parseSetting_90 rfl (lv_at hl 1 rfl) ?_
        refine lv_aload_n hx hb dX5_parseSetting_91 rfl (lv_at hl 0 rfl) ?_
        have hR22 : Ok 194 (R x0 0) 10 := hSh x0 5 0 10 hx0.1 rfl
        refine x_getR C S KX5 hx0 0 (by decide) rfl rfl fl_RX5_12 hR22 dX5_parseSetting_92 ?_
        refine lv_iconst (v := (0 : Int32)) hx hb dX5_parseSetting_95 (by decide) ?_
        refine lv_bipush (v := (60 : Int32)) hx hb dX5_parseSetting_96 (by decide) ?_
        obtain ⟨a23, σ23, hc23, h⟩ := bd_el h
        refine x_callVI C S KX10 hR22 (ok_X10_takeNumber (L := L) hc23 hSh hR22) ⟨cd_X10_takeNumber, ni_RX10, ml_RX5_73, in_X10_takeNumber, sl_X10_takeNumber⟩ ⟨by decide, by decide⟩ rfl (rm_ok (by decide) (by decide)) hl.1 rfl (Nat.le_of_ble_eq_true rfl) ⟨by decide, by decide⟩ dX5_parseSetting_98 (fun H locs S => ?_)
        obtain ⟨σ24, hs24, h⟩ := sq_el h
        refine x_putI C S KX9 hx1 15 (by decide) rfl rfl rfl ⟨rfl, rfl⟩ fl_RX5_89 dX5_parseSetting_101 hs24 (fun H locs S => ?_)
        refine lv_aload_n hx hb dX5_parseSetting_104 rfl (lv_at hl 1 rfl) ?_
        refine lv_aload_n hx hb dX5_parseSetting_105 rfl (lv_at hl 0 rfl) ?_
        have hR25 : Ok 194 (R x0 0) 10 := hSh x0 5 0 10 hx0.1 rfl
        refine x_getR C S KX5 hx0 0 (by decide) rfl rfl fl_RX5_12 hR25 dX5_parseSetting_106 ?_
        refine lv_iconst (v := (0 : Int32)) hx hb dX5_parseSetting_109 (by decide) ?_
        refine lv_bipush (v := (60 : Int32)) hx hb dX5_parseSetting_110 (by decide) ?_
        obtain ⟨a26, σ26, hc26, h⟩ := bd_el h
        refine x_callVI C S KX10 hR25 (ok_X10_takeNumber (L := L) hc26 hSh hR25) ⟨cd_X10_takeNumber, ni_RX10, ml_RX5_73, in_X10_takeNumber, sl_X10_takeNumber⟩ ⟨by decide, by decide⟩ rfl (rm_ok (by decide) (by decide)) hl.1 rfl (Nat.le_of_ble_eq_true rfl) ⟨by decide, by decide⟩ dX5_parseSetting_112 (fun H locs S => ?_)
        obtain ⟨σ27, hs27, h⟩ := sq_el h
        refine x_putI C S KX9 hx1 16 (by decide) rfl rfl rfl ⟨rfl, rfl⟩ fl_RX5_92 dX5_parseSetting_115 hs27 (fun H locs S => ?_)
        refine lv_goto (tgt := 179) hx hb dX5_parseSetting_118 (by decide) ?_
        exact x_vret C S hr h dX5_parseSetting_179
    · have h := it_n c6 h
      refine lv_aload_n hx hb dX5_parseSetting_60 rfl (lv_at hl 1 rfl) ?_
      refine lv_aload_n hx hb dX5_parseSetting_61 rfl (lv_at hl 0 rfl) ?_
      have hR28 : Ok 194 (R x0 0) 10 := hSh x0 5 0 10 hx0.1 rfl
      refine x_getR C S KX5 hx0 0 (by decide) rfl rfl fl_RX5_12 hR28 dX5_parseSetting_62 ?_
      refine lv_iconst (v := (1 : Int32)) hx hb dX5_parseSetting_65 (by decide) ?_
      refine lv_sipush (v := (240 : Int32)) hx hb dX5_parseSetting_66 (by decide) ?_
      obtain ⟨a29, σ29, hc29, h⟩ := bd_el h
      refine x_callVI C S KX10 hR28 (ok_X10_takeNumber (L := L) hc29 hSh hR28) ⟨cd_X10_takeNumber, ni_RX10, ml_RX5_73, in_X10_takeNumber, sl_X10_takeNumber⟩ ⟨by decide, by decide⟩ rfl (rm_ok (by decide) (by decide)) hl.1 rfl (Nat.le_of_ble_eq_true rfl) ⟨by decide, by decide⟩ dX5_parseSetting_69 (fun H locs S => ?_)
      obtain ⟨σ30, hs30, h⟩ := sq_el h
      refine x_putI C S KX9 hx1 14 (by decide) rfl rfl rfl ⟨rfl, rfl⟩ fl_RX5_85 dX5_parseSetting_72 hs30 (fun H locs S => ?_)
      refine lv_goto (tgt := 179) hx hb dX5_parseSetting_75 (by decide) ?_
      exact x_vret C S hr h dX5_parseSetting_179
  · have h := it_n c3 h
    refine lv_aload_n hx hb dX5_parseSetting_12 rfl (lv_at hl 1 rfl) ?_
    refine lv_aload_n hx hb dX5_parseSetting_13 rfl (lv_at hl 0 rfl) ?_
    have hR31 : Ok 194 (R x0 0) 10 := hSh x0 5 0 10 hx0.1 rfl
    refine x_getR C S KX5 hx0 0 (by decide) rfl rfl fl_RX5_12 hR31 dX5_parseSetting_14 ?_
    refine lv_iconst (v := (0 : Int32)) hx hb dX5_parseSetting_17 (by decide) ?_
    refine lv_sipush (v := (1439 : Int32)) hx hb dX5_parseSetting_18 (by decide) ?_
    obtain ⟨a32, σ32, hc32, h⟩ := bd_el h
    refine x_callVI C S KX10 hR31 (ok_X10_takeNumber (L := L) hc32 hSh hR31) ⟨cd_X10_takeNumber, ni_RX10, ml_RX5_73, in_X10_takeNumber, sl_X10_takeNumber⟩ ⟨by decide, by decide⟩ rfl (rm_ok (by decide) (by decide)) hl.1 rfl (Nat.le_of_ble_eq_true rfl) ⟨by decide, by decide⟩ dX5_parseSetting_21 (fun H locs S => ?_)
    obtain ⟨σ33, hs33, h⟩ := sq_el h
    refine x_putI C S KX9 hx1 12 (by decide) rfl rfl rfl ⟨rfl, rfl⟩ fl_RX5_77 dX5_parseSetting_24 hs33 (fun H locs S => ?_)
    refine lv_aload_n hx hb dX5_parseSetting_27 rfl (lv_at hl 1 rfl) ?_
    refine lv_aload_n hx hb dX5_parseSetting_28 rfl (lv_at hl 0 rfl) ?_
    have hR34 : Ok 194 (R x0 0) 10 := hSh x0 5 0 10 hx0.1 rfl
    refine x_getR C S KX5 hx0 0 (by decide) rfl rfl fl_RX5_12 hR34 dX5_parseSetting_29 ?_
    refine lv_aload_n hx hb dX5_parseSetting_32 rfl (lv_at hl 1 rfl) ?_
    refine x_getI C S KX9 hx1 12 (by decide) rfl rfl fl_RX5_77 dX5_parseSetting_33 ?_
    refine lv_sipush (v := (1439 : Int32)) hx hb dX5_parseSetting_36 (by decide) ?_
    obtain ⟨a35, σ35, hc35, h⟩ := bd_el h
    refine x_callVI C S KX10 hR34 (ok_X10_takeNumber (L := L) hc35 hSh hR34) ⟨cd_X10_takeNumber, ni_RX10, ml_RX5_73, in_X10_takeNumber, sl_X10_takeNumber⟩ ⟨by decide, by decide⟩ rfl (rm_ok (by decide) (by decide)) hl.1 rfl (Nat.le_of_ble_eq_true rfl) ⟨by decide, by decide⟩ dX5_parseSetting_39 (fun H locs S => ?_)
    obtain ⟨σ36, hs36, h⟩ := sq_el h
    refine x_putI C S KX9 hx1 13 (by decide) rfl rfl rfl ⟨rfl, rfl⟩ fl_RX5_80 dX5_parseSetting_42 hs36 (fun H locs S => ?_)
    refine lv_goto (tgt := 179) hx hb dX5_parseSetting_45 (by decide) ?_
    exact x_vret C S hr h dX5_parseSetting_179
theorem dX5_parseNeighbour_0 : decode cX5_parseNeighbour 0 = .ok (.aload_n 1, 1) := by decide +kernel
theorem dX5_parseNeighbour_1 : decode cX5_parseNeighbour 1 = .ok (.getfield 112, 3) := by decide +kernel
theorem dX5_parseNeighbour_4 : decode cX5_parseNeighbour 4 = .ok (.bipush 8, 2) := by decide +kernel
theorem dX5_parseNeighbour_6 : decode cX5_parseNeighbour 6 = .ok (.if_icmp .lt 13, 3) := by decide +kernel
theorem dX5_parseNeighbour_9 : decode cX5_parseNeighbour 9 = .ok (.aload_n 0, 1) := by decide +kernel
theorem dX5_parseNeighbour_10 : decode cX5_parseNeighbour 10 = .ok (.getfield 12, 3) := by decide +kernel
theorem dX5_parseNeighbour_13 : decode cX5_parseNeighbour 13 = .ok (.iload_n 2, 1) := by decide +kernel
theorem dX5_parseNeighbour_14 : decode cX5_parseNeighbour 14 = .ok (.iconst 4, 1) := by decide +kernel
theorem dX5_parseNeighbour_15 : decode cX5_parseNeighbour 15 = .ok (.invokevirtual 115, 3) := by decide +kernel
theorem dX5_parseNeighbour_18 : decode cX5_parseNeighbour 18 = .ok (.return_, 1) := by decide +kernel
theorem dX5_parseNeighbour_19 : decode cX5_parseNeighbour 19 = .ok (.aload_n 1, 1) := by decide +kernel
theorem dX5_parseNeighbour_20 : decode cX5_parseNeighbour 20 = .ok (.getfield 112, 3) := by decide +kernel
theorem dX5_parseNeighbour_23 : decode cX5_parseNeighbour 23 = .ok (.istore_n 3, 1) := by decide +kernel
theorem dX5_parseNeighbour_24 : decode cX5_parseNeighbour 24 = .ok (.aload_n 1, 1) := by decide +kernel
theorem dX5_parseNeighbour_25 : decode cX5_parseNeighbour 25 = .ok (.getfield 119, 3) := by decide +kernel
theorem dX5_parseNeighbour_28 : decode cX5_parseNeighbour 28 = .ok (.iload_n 3, 1) := by decide +kernel
theorem dX5_parseNeighbour_29 : decode cX5_parseNeighbour 29 = .ok (.aaload, 1) := by decide +kernel
theorem dX5_parseNeighbour_30 : decode cX5_parseNeighbour 30 = .ok (.astore 4, 2) := by decide +kernel
theorem dX5_parseNeighbour_32 : decode cX5_parseNeighbour 32 = .ok (.aload_n 1, 1) := by decide +kernel
theorem dX5_parseNeighbour_33 : decode cX5_parseNeighbour 33 = .ok (.getfield 123, 3) := by decide +kernel
theorem dX5_parseNeighbour_36 : decode cX5_parseNeighbour 36 = .ok (.iload_n 3, 1) := by decide +kernel
theorem dX5_parseNeighbour_37 : decode cX5_parseNeighbour 37 = .ok (.aload_n 0, 1) := by decide +kernel
theorem dX5_parseNeighbour_38 : decode cX5_parseNeighbour 38 = .ok (.getfield 12, 3) := by decide +kernel
theorem dX5_parseNeighbour_41 : decode cX5_parseNeighbour 41 = .ok (.aload_n 1, 1) := by decide +kernel
theorem dX5_parseNeighbour_42 : decode cX5_parseNeighbour 42 = .ok (.getfield 123, 3) := by decide +kernel
theorem dX5_parseNeighbour_45 : decode cX5_parseNeighbour 45 = .ok (.iload_n 3, 1) := by decide +kernel
theorem dX5_parseNeighbour_46 : decode cX5_parseNeighbour 46 = .ok (.invokevirtual 126, 3) := by decide +kernel
theorem dX5_parseNeighbour_49 : decode cX5_parseNeighbour 49 = .ok (.iastore, 1) := by decide +kernel
theorem dX5_parseNeighbour_50 : decode cX5_parseNeighbour 50 = .ok (.aload 4, 2) := by decide +kernel
theorem dX5_parseNeighbour_52 : decode cX5_parseNeighbour 52 = .ok (.aload_n 0, 1) := by decide +kernel
theorem dX5_parseNeighbour_53 : decode cX5_parseNeighbour 53 = .ok (.getfield 12, 3) := by decide +kernel
theorem dX5_parseNeighbour_56 : decode cX5_parseNeighbour 56 = .ok (.iconst 0, 1) := by decide +kernel
theorem dX5_parseNeighbour_57 : decode cX5_parseNeighbour 57 = .ok (.sipush 999, 3) := by decide +kernel
theorem dX5_parseNeighbour_60 : decode cX5_parseNeighbour 60 = .ok (.invokevirtual 73, 3) := by decide +kernel
theorem dX5_parseNeighbour_63 : decode cX5_parseNeighbour 63 = .ok (.putfield 130, 3) := by decide +kernel
theorem dX5_parseNeighbour_66 : decode cX5_parseNeighbour 66 = .ok (.aload 4, 2) := by decide +kernel
theorem dX5_parseNeighbour_68 : decode cX5_parseNeighbour 68 = .ok (.aload_n 0, 1) := by decide +kernel
theorem dX5_parseNeighbour_69 : decode cX5_parseNeighbour 69 = .ok (.getfield 12, 3) := by decide +kernel
theorem dX5_parseNeighbour_72 : decode cX5_parseNeighbour 72 = .ok (.iconst 0, 1) := by decide +kernel
theorem dX5_parseNeighbour_73 : decode cX5_parseNeighbour 73 = .ok (.sipush 999, 3) := by decide +kernel
theorem dX5_parseNeighbour_76 : decode cX5_parseNeighbour 76 = .ok (.invokevirtual 73, 3) := by decide +kernel
theorem dX5_parseNeighbour_79 : decode cX5_parseNeighbour 79 = .ok (.putfield 135, 3) := by decide +kernel
theorem dX5_parseNeighbour_82 : decode cX5_parseNeighbour 82 = .ok (.aload 4, 2) := by decide +kernel
theorem dX5_parseNeighbour_84 : decode cX5_parseNeighbour 84 = .ok (.aload_n 0, 1) := by decide +kernel
theorem dX5_parseNeighbour_85 : decode cX5_parseNeighbour 85 = .ok (.getfield 12, 3) := by decide +kernel
theorem dX5_parseNeighbour_88 : decode cX5_parseNeighbour 88 = .ok (.iconst 0, 1) := by decide +kernel
theorem dX5_parseNeighbour_89 : decode cX5_parseNeighbour 89 = .ok (.ldc 138, 2) := by decide +kernel
theorem dX5_parseNeighbour_91 : decode cX5_parseNeighbour 91 = .ok (.invokevirtual 73, 3) := by decide +kernel
theorem dX5_parseNeighbour_94 : decode cX5_parseNeighbour 94 = .ok (.putfield 139, 3) := by decide +kernel
theorem dX5_parseNeighbour_97 : decode cX5_parseNeighbour 97 = .ok (.aload 4, 2) := by decide +kernel
theorem dX5_parseNeighbour_99 : decode cX5_parseNeighbour 99 = .ok (.iconst 0, 1) := by decide +kernel
theorem dX5_parseNeighbour_100 : decode cX5_parseNeighbour 100 = .ok (.putfield 142, 3) := by decide +kernel
theorem dX5_parseNeighbour_103 : decode cX5_parseNeighbour 103 = .ok (.iconst 0, 1) := by decide +kernel
theorem dX5_parseNeighbour_104 : decode cX5_parseNeighbour 104 = .ok (.istore 5, 2) := by decide +kernel
theorem dX5_parseNeighbour_106 : decode cX5_parseNeighbour 106 = .ok (.iload 5, 2) := by decide +kernel
theorem dX5_parseNeighbour_108 : decode cX5_parseNeighbour 108 = .ok (.iconst 4, 1) := by decide +kernel
theorem dX5_parseNeighbour_109 : decode cX5_parseNeighbour 109 = .ok (.if_icmp .gt 35, 3) := by decide +kernel
theorem dX5_parseNeighbour_112 : decode cX5_parseNeighbour 112 = .ok (.aload_n 0, 1) := by decide +kernel
theorem dX5_parseNeighbour_113 : decode cX5_parseNeighbour 113 = .ok (.getfield 12, 3) := by decide +kernel
theorem dX5_parseNeighbour_116 : decode cX5_parseNeighbour 116 = .ok (.invokevirtual 26, 3) := by decide +kernel
theorem dX5_parseNeighbour_119 : decode cX5_parseNeighbour 119 = .ok (.ifCond .ne 25, 3) := by decide +kernel
theorem dX5_parseNeighbour_122 : decode cX5_parseNeighbour 122 = .ok (.aload_n 0, 1) := by decide +kernel
theorem dX5_parseNeighbour_123 : decode cX5_parseNeighbour 123 = .ok (.getfield 12, 3) := by decide +kernel
theorem dX5_parseNeighbour_126 : decode cX5_parseNeighbour 126 = .ok (.invokevirtual 145, 3) := by decide +kernel
theorem dX5_parseNeighbour_129 : decode cX5_parseNeighbour 129 = .ok (.ifCond .eq 15, 3) := by decide +kernel
theorem dX5_parseNeighbour_132 : decode cX5_parseNeighbour 132 = .ok (.aload_n 0, 1) := by decide +kernel
theorem dX5_parseNeighbour_133 : decode cX5_parseNeighbour 133 = .ok (.aload 4, 2) := by decide +kernel
theorem dX5_parseNeighbour_135 : decode cX5_parseNeighbour 135 = .ok (.invokevirtual 148, 3) := by decide +kernel
theorem dX5_parseNeighbour_138 : decode cX5_parseNeighbour 138 = .ok (.iinc 5 1, 3) := by decide +kernel
theorem dX5_parseNeighbour_141 : decode cX5_parseNeighbour 141 = .ok (.goto (-35), 3) := by decide +kernel
theorem dX5_parseNeighbour_144 : decode cX5_parseNeighbour 144 = .ok (.aload_n 1, 1) := by decide +kernel
theorem dX5_parseNeighbour_145 : decode cX5_parseNeighbour 145 = .ok (.dup, 1) := by decide +kernel
theorem dX5_parseNeighbour_146 : decode cX5_parseNeighbour 146 = .ok (.getfield 112, 3) := by decide +kernel
theorem dX5_parseNeighbour_149 : decode cX5_parseNeighbour 149 = .ok (.iconst 1, 1) := by decide +kernel
theorem dX5_parseNeighbour_150 : decode cX5_parseNeighbour 150 = .ok (.iadd, 1) := by decide +kernel
theorem dX5_parseNeighbour_151 : decode cX5_parseNeighbour 151 = .ok (.putfield 112, 3) := by decide +kernel
theorem dX5_parseNeighbour_154 : decode cX5_parseNeighbour 154 = .ok (.return_, 1) := by decide +kernel
def f_X5_parseNeighbour_144 (N : Nat) (R : Nat → Nat → Nat) (σ : SI) (x1 : Nat) : Option (Unit × SI) := sq (up σ x1 9 ((σ x1 9) + (1 : Int32))) (fun σ22 => some ((), σ22))
def f_X5_parseNeighbour_106 (N : Nat) (R : Nat → Nat → Nat) : Nat → SI → Nat → Nat → Nat → Int32 → Option (Unit × SI)
  | 0, _, _, _, _, _ => none
  | n + 1, σ, x0, x1, x4, x5 => if (4 : Int32) < x5 then (f_X5_parseNeighbour_144 N R σ x1) else (bd (f_X10_failed N R σ (R x0 0)) (fun a24 σ24 => if a24 = 0 then (bd (f_X10_numberFollows N R σ24 (R x0 0)) (fun a27 σ27 => if a27 = 0 then (f_X5_parseNeighbour_144 N R σ27 x1) else (bd (f_X5_parseWindow N R σ27 x0 x4) (fun _ σ29 => f_X5_parseNeighbour_106 N R n σ29 x0 x1 x4 (x5 + 1))))) else (f_X5_parseNeighbour_144 N R σ24 x1)))
def f_X5_parseNeighbour (N : Nat) (R : Nat → Nat → Nat) (σ : SI) (x0 : Nat) (x1 : Nat) (x2 : Int32) : Option (Unit × SI) := if (σ x1 9) < (8 : Int32) then (ck (σ x1 9) 8 (bd (f_X10_takeName N R 8 σ (R x0 0) (R x1 3) (σ x1 9)) (fun a8 σ8 => ck (σ x1 9) 8 (sq (up σ8 (R x1 3) (σ x1 9).toNatClampNeg a8) (fun σ10 => bd (f_X10_takeNumber N R σ10 (R x0 0) (0 : Int32) (999 : Int32)) (fun a12 σ12 => sq (up σ12 (R (R x1 0) (σ x1 9).toNatClampNeg) 2 a12) (fun σ13 => bd (f_X10_takeNumber N R σ13 (R x0 0) (0 : Int32) (999 : Int32)) (fun a15 σ15 => sq (up σ15 (R (R x1 0) (σ x1 9).toNatClampNeg) 3 a15) (fun σ16 => bd (f_X10_takeNumber N R σ16 (R x0 0) (0 : Int32) (99999 : Int32)) (fun a18 σ18 => sq (up σ18 (R (R x1 0) (σ x1 9).toNatClampNeg) 4 a18) (fun σ19 => sq (up σ19 (R (R x1 0) (σ x1 9).toNatClampNeg) 5 (0 : Int32)) (fun σ20 => f_X5_parseNeighbour_106 N R N σ20 x0 x1 (R (R x1 0) (σ x1 9).toNatClampNeg) (0 : Int32))))))))))))) else (bd (f_X10_fail N R σ (R x0 0) x2 (4 : Int32)) (fun _ σ31 => some ((), σ31)))
set_option maxHeartbeats 4000000 in
set_option maxRecDepth 100000 in
theorem w_X5_parseNeighbour_144 {l : Launch} {g : GL} {p : Program} {e : Jvm.Env} {s : State} {m : MethodId} {args : Array Value} {below : List Frame} {meth : Method} {c : Code} {R : Nat → Nat → Nat} {L : Nat → Nat → Int64} {r : (Unit × SI)} {N : Nat} (C : Cx l g p s m meth c cX5_parseNeighbour 6 RX5) (hr : meth.sig.returnType = none) (hSh : ShR R) : ∀ (σ : SI) (x1 : Nat), f_X5_parseNeighbour_144 N R σ x1 = some r → Ok 194 x1 9 → ∀ (H : Heap) (locs : List Loc) (ls : Array Slot), S2 g s σ R L H locs → lv_has ls 6 [(1, .ref (gb g + x1))] → W p l e (rmd 7 0 0) s m args below meth c H locs 0 0 (MQ below (Qg g 194 (PV R L r)) args s 0 0 (gA g)) (F0 m 144 ls []) := by
  have hx := C.1
  have hb := C.2.1
  intro σ x1 h hx1 H locs ls S hl
  rw [f_X5_parseNeighbour_144] at h
  refine lv_aload_n hx hb dX5_parseNeighbour_144 rfl (lv_at hl 0 rfl) ?_
  refine lv_dup hx hb dX5_parseNeighbour_145 rfl ?_
  refine x_getI C S KX9 hx1 9 (by decide) rfl rfl fl_RX5_112 dX5_parseNeighbour_146 ?_
  refine lv_iconst (v := (1 : Int32)) hx hb dX5_parseNeighbour_149 (by decide) ?_
  refine lv_iadd hx hb dX5_parseNeighbour_150 ?_
  obtain ⟨σ22, hs22, h⟩ := sq_el h
  refine x_putI C S KX9 hx1 9 (by decide) rfl rfl rfl ⟨rfl, rfl⟩ fl_RX5_112 dX5_parseNeighbour_151 hs22 (fun H locs S => ?_)
  exact x_vret C S hr h dX5_parseNeighbour_154
set_option maxHeartbeats 4000000 in
set_option maxRecDepth 100000 in
theorem w_X5_parseNeighbour_106 {l : Launch} {g : GL} {p : Program} {e : Jvm.Env} {s : State} {m : MethodId} {args : Array Value} {below : List Frame} {meth : Method} {c : Code} {R : Nat → Nat → Nat} {L : Nat → Nat → Int64} {r : (Unit × SI)} {N : Nat} (C : Cx l g p s m meth c cX5_parseNeighbour 6 RX5) (hr : meth.sig.returnType = none) (hSh : ShR R) : ∀ (n : Nat) (σ : SI) (x0 : Nat) (x1 : Nat) (x4 : Nat) (x5 : Int32), f_X5_parseNeighbour_106 N R n σ x0 x1 x4 x5 = some r → Ok 194 x0 5 → Ok 194 x1 9 → Ok 194 x4 4 → ∀ (H : Heap) (locs : List Loc) (ls : Array Slot), S2 g s σ R L H locs → lv_has ls 6 [(0, .ref (gb g + x0)), (1, .ref (gb g + x1)), (4, .ref (gb g + x4)), (5, .int x5)] → W p l e (rmd 7 0 0) s m args below meth c H locs 0 0 (MQ below (Qg g 194 (PV R L r)) args s 0 0 (gA g)) (F0 m 106 ls []) := by
  have hx := C.1
  have hb := C.2.1
  intro n
  induction n with
  | zero =>
    intro σ x0 x1 x4 x5 h
    cases (show (none : Option (Unit × SI)) = some r from h)
  | succ n ih =>
    intro σ x0 x1 x4 x5 h hx0 hx1 hx4 H locs ls S hl
    rw [f_X5_parseNeighbour_106] at h
    refine lv_iload hx hb dX5_parseNeighbour_106 (lv_at hl 3 rfl) ?_
    refine lv_iconst (v := (4 : Int32)) hx hb dX5_parseNeighbour_108 (by decide) ?_
    refine lv_icmp_gt (tgt := 144) hx hb dX5_parseNeighbour_109 (by decide) (fun c21 => ?_) (fun c21 => ?_)
    · have h := it_p c21 h
      exact w_X5_parseNeighbour_144 C hr hSh σ x1 h hx1 H locs ls S (lv_sub hl [1] rfl)
    · have h := it_n c21 h
      refine lv_aload_n hx hb dX5_parseNeighbour_112 rfl (lv_at hl 0 rfl) ?_
      have hR23 : Ok 194 (R x0 0) 10 := hSh x0 5 0 10 hx0.1 rfl
      refine x_getR C S KX5 hx0 0 (by decide) rfl rfl fl_RX5_12 hR23 dX5_parseNeighbour_113 ?_
      obtain ⟨a24, σ24, hc24, h⟩ := bd_el h
      refine x_callVI C S KX10 hR23 (ok_X10_failed (L := L) hc24 hSh hR23) ⟨cd_X10_failed, ni_RX10, ml_RX5_26, in_X10_failed, sl_X10_failed⟩ ⟨by decide, by decide⟩ rfl (rm_ok (by decide) (by decide)) hl.1 rfl (Nat.le_of_ble_eq_true rfl) ⟨by decide, by decide⟩ dX5_parseNeighbour_116 (fun H locs S => ?_)
      refine lv_if_ne (tgt := 144) hx hb dX5_parseNeighbour_119 (by decide) (fun c25 => ?_) (fun c25 => ?_)
      · have h := it_n c25 h
        exact w_X5_parseNeighbour_144 C hr hSh σ24 x1 h hx1 H locs ls S (lv_sub hl [1] rfl)
      · have h := it_p c25 h
        refine lv_aload_n hx hb dX5_parseNeighbour_122 rfl (lv_at hl 0 rfl) ?_
        have hR26 : Ok 194 (R x0 0) 10 := hSh x0 5 0 10 hx0.1 rfl
        refine x_getR C S KX5 hx0 0 (by decide) rfl rfl fl_RX5_12 hR26 dX5_parseNeighbour_123 ?_
        obtain ⟨a27, σ27, hc27, h⟩ := bd_el h
        refine x_callVI C S KX10 hR26 (ok_X10_numberFollows (L := L) hc27 hSh hR26) ⟨cd_X10_numberFollows, ni_RX10, ml_RX5_145, in_X10_numberFollows, sl_X10_numberFollows⟩ ⟨by decide, by decide⟩ rfl (rm_ok (by decide) (by decide)) hl.1 rfl (Nat.le_of_ble_eq_true rfl) ⟨by decide, by decide⟩ dX5_parseNeighbour_126 (fun H locs S => ?_)
        refine lv_if_eq (tgt := 144) hx hb dX5_parseNeighbour_129 (by decide) (fun c28 => ?_) (fun c28 => ?_)
        · have h := it_p c28 h
          exact w_X5_parseNeighbour_144 C hr hSh σ27 x1 h hx1 H locs ls S (lv_sub hl [1] rfl)
        · have h := it_n c28 h
          refine lv_aload_n hx hb dX5_parseNeighbour_132 rfl (lv_at hl 0 rfl) ?_
          refine lv_aload hx hb dX5_parseNeighbour_133 (lv_at hl 2 rfl) ?_
          obtain ⟨a29, σ29, hc29, h⟩ := bd_el h
          refine x_callVV C S KX5 hx0 (ok_X5_parseWindow (L := L) hc29 hSh hx0 hx4) ⟨cd_X5_parseWindow, ni_RX5, ml_RX5_148, in_X5_parseWindow, sl_X5_parseWindow⟩ ⟨by decide, by decide⟩ rfl (rm_ok (by decide) (by decide)) hl.1 rfl (Nat.le_of_ble_eq_true rfl) ⟨by decide, by decide⟩ dX5_parseNeighbour_135 (fun H locs S => ?_)
          refine lv_iinc (v := x5 + 1) (lv' := [(5, .int (x5 + 1)), (0, .ref (gb g + x0)), (1, .ref (gb g + x1)), (4, .ref (gb g + x4))]) hx hb dX5_parseNeighbour_138 hl (k := 3) rfl rfl (by decide) rfl (fun ls hl => ?_)
          refine lv_goto (tgt := 106) hx hb dX5_parseNeighbour_141 (by decide) ?_
          exact ih σ29 x0 x1 x4 (x5 + 1) h hx0 hx1 hx4 H locs ls S (lv_sub hl [1, 2, 3, 0] rfl)
set_option maxHeartbeats 4000000 in
set_option maxRecDepth 100000 in
theorem ok_X5_parseNeighbour {l : Launch} {g : GL} {R : Nat → Nat → Nat} {L : Nat → Nat → Int64} {N : Nat} {σ : SI} {x0 : Nat} {x1 : Nat} {x2 : Int32} {r : (Unit × SI)} (h : f_X5_parseNeighbour N R σ x0 x1 x2 = some r) (hSh : ShR R) (hx0 : Ok 194 x0 5) (hx1 : Ok 194 x1 9) : Ct l g 7 yX5_parseNeighbour cX5_parseNeighbour 6 none 194 194 0 0 [.ref (gb g + x0), .ref (gb g + x1), .int x2] (mkS σ R L) (PV R L r) := by
  refine Met.ofW (cc := cX5_parseNeighbour) (maxL := 6) (ret := none) (by decide) rfl ?_
  intro p e s m args below meth c s₁ B hml hv
  obtain ⟨rfl, hE, hLo, hWd⟩ := hv
  have hr : meth.sig.returnType = none := B.returns
  have C : Cx l g p s m meth c cX5_parseNeighbour 6 RX5 := ⟨B.exec, B.bytes, hml, findClass_of_methodNamed B.named, hE, hLo, B.notSynchronized⟩
  have S : S2 g s σ R L s.heap [] := ⟨hWd, va_S.rf⟩
  have hx := C.1
  have hb := C.2.1
  have hl := lv_entry ([.ref (gb g + x0), .ref (gb g + x1), .int x2]) (n := 6) (Nat.le_of_ble_eq_true rfl)
  rw [lg_entry_eq]
  generalize (lg_sl ([.ref (gb g + x0), .ref (gb g + x1), .int x2]) ++ List.replicate (6 - (lg_sl ([.ref (gb g + x0), .ref (gb g + x1), .int x2])).length) Slot.unset).toArray = ls at hl ⊢
  have hl : lv_has ls 6 [(0, .ref (gb g + x0)), (1, .ref (gb g + x1)), (2, .int x2)] := hl
  generalize hH : s.heap = H at S ⊢
  generalize hlc : ([] : List Loc) = locs at S ⊢
  rw [f_X5_parseNeighbour] at h
  refine lv_aload_n hx hb dX5_parseNeighbour_0 rfl (lv_at hl 1 rfl) ?_
  refine x_getI C S KX9 hx1 9 (by decide) rfl rfl fl_RX5_112 dX5_parseNeighbour_1 ?_
  refine lv_bipush (v := (8 : Int32)) hx hb dX5_parseNeighbour_4 (by decide) ?_
  refine lv_icmp_lt (tgt := 19) hx hb dX5_parseNeighbour_6 (by decide) (fun c1 => ?_) (fun c1 => ?_)
  · have h := it_p c1 h
    refine lv_aload_n hx hb dX5_parseNeighbour_19 rfl (lv_at hl 1 rfl) ?_
    refine x_getI C S KX9 hx1 9 (by decide) rfl rfl fl_RX5_112 dX5_parseNeighbour_20 ?_
    refine lv_istore_n (lv' := [(3, .int (σ x1 9)), (0, .ref (gb g + x0)), (1, .ref (gb g + x1)), (2, .int x2)]) hx hb dX5_parseNeighbour_23 rfl hl (by decide) rfl (fun ls hl => ?_)
    refine lv_aload_n hx hb dX5_parseNeighbour_24 rfl (lv_at hl 2 rfl) ?_
    have hR2 : Ok 194 (R x1 0) 60008 := hSh x1 9 0 60008 hx1.1 rfl
    refine x_getR C S KX9 hx1 0 (by decide) rfl rfl fl_RX5_119 hR2 dX5_parseNeighbour_25 ?_
    refine lv_iload_n hx hb dX5_parseNeighbour_28 rfl (lv_at hl 0 rfl) ?_
    obtain ⟨hi3, h⟩ := ck_el h
    have hR4 : Ok 194 (R (R x1 0) (σ x1 9).toNatClampNeg) 4 := hSh (R x1 0) 60008 (σ x1 9).toNatClampNeg 4 hR2.1 (if_pos (vp_lt hi3))
    refine x_aald (len := 8) C S (by decide) 5 (by decide) rfl hR2 hi3 hR4 dX5_parseNeighbour_29 ?_
    refine lv_astore (lv' := [(4, .ref (gb g + (R (R x1 0) (σ x1 9).toNatClampNeg))), (3, .int (σ x1 9)), (0, .ref (gb g + x0)), (1, .ref (gb g + x1)), (2, .int x2)]) hx hb dX5_parseNeighbour_30 hl (by decide) rfl (fun ls hl => ?_)
    refine lv_aload_n hx hb dX5_parseNeighbour_32 rfl (lv_at hl 3 rfl) ?_
    have hR5 : Ok 194 (R x1 3) 10008 := hSh x1 9 3 10008 hx1.1 rfl
    refine x_getR C S KX9 hx1 3 (by decide) rfl rfl fl_RX5_123 hR5 dX5_parseNeighbour_33 ?_
    refine lv_iload_n hx hb dX5_parseNeighbour_36 rfl (lv_at hl 1 rfl) ?_
    refine lv_aload_n hx hb dX5_parseNeighbour_37 rfl (lv_at hl 2 rfl) ?_
    have hR6 : Ok 194 (R x0 0) 10 := hSh x0 5 0 10 hx0.1 rfl
    refine x_getR C S KX5 hx0 0 (by decide) rfl rfl fl_RX5_12 hR6 dX5_parseNeighbour_38 ?_
    refine lv_aload_n hx hb dX5_parseNeighbour_41 rfl (lv_at hl 3 rfl) ?_
    have hR7 : Ok 194 (R x1 3) 10008 := hSh x1 9 3 10008 hx1.1 rfl
    refine x_getR C S KX9 hx1 3 (by decide) rfl rfl fl_RX5_123 hR7 dX5_parseNeighbour_42 ?_
    refine lv_iload_n hx hb dX5_parseNeighbour_45 rfl (lv_at hl 1 rfl) ?_
    obtain ⟨a8, σ8, hc8, h⟩ := bd_el h
    refine x_callVI C S KX10 hR6 (ok_X10_takeName (L := L) hc8 hSh (by decide) hR6 hR7) ⟨cd_X10_takeName, ni_RX10, ml_RX5_126, in_X10_takeName, sl_X10_takeName⟩ ⟨by decide, by decide⟩ rfl (rm_ok (by decide) (by decide)) hl.1 rfl (Nat.le_of_ble_eq_true rfl) ⟨by decide, by decide⟩ dX5_parseNeighbour_46 (fun H locs S => ?_)
    obtain ⟨hi9, h⟩ := ck_el h
    obtain ⟨σ10, hs10, h⟩ := sq_el h
    refine x_iast (len := 8) C S (by decide) hR5 hi9 dX5_parseNeighbour_49 hs10 (fun H locs S => ?_)
    refine lv_aload hx hb dX5_parseNeighbour_50 (lv_at hl 0 rfl) ?_
    refine lv_aload_n hx hb dX5_parseNeighbour_52 rfl (lv_at hl 2 rfl) ?_
    have hR11 : Ok 194 (R x0 0) 10 := hSh x0 5 0 10 hx0.1 rfl
    refine x_getR C S KX5 hx0 0 (by decide) rfl rfl fl_RX5_12 hR11 dX5_parseNeighbour_53 ?_
    refine lv_iconst (v := (0 : Int32)) hx hb dX5_parseNeighbour_56 (by decide) ?_
    refine lv_sipush (v := (999 : Int32)) hx hb dX5_parseNeighbour_57 (by decide) ?_
    obtain ⟨a12, σ12, hc12, h⟩ := bd_el h
    refine x_callVI C S KX10 hR11 (ok_X10_takeNumber (L := L) hc12 hSh hR11) ⟨cd_X10_takeNumber, ni_RX10, ml_RX5_73, in_X10_takeNumber, sl_X10_takeNumber⟩ ⟨by decide, by decide⟩ rfl (rm_ok (by decide) (by decide)) hl.1 rfl (Nat.le_of_ble_eq_true rfl) ⟨by decide, by decide⟩ dX5_parseNeighbour_60 (fun H locs S => ?_)
    obtain ⟨σ13, hs13, h⟩ := sq_el h
    refine x_putI C S KX4 hR4 2 (by decide) rfl rfl rfl ⟨rfl, rfl⟩ fl_RX5_130 dX5_parseNeighbour_63 hs13 (fun H locs S => ?_)
    refine lv_aload hx hb dX5_parseNeighbour_66 (lv_at hl 0 rfl) ?_
    refine lv_aload_n hx hb dX5_parseNeighbour_68 rfl (lv_at hl 2 rfl) ?_
    have hR14 : Ok 194 (R x0 0) 10 := hSh x0 5 0 10 hx0.1 rfl
    refine x_getR C S KX5 hx0 0 (by decide) rfl rfl fl_RX5_12 hR14 dX5_parseNeighbour_69 ?_
    refine lv_iconst (v := (0 : Int32)) hx hb dX5_parseNeighbour_72 (by decide) ?_
    refine lv_sipush (v := (999 : Int32)) hx hb dX5_parseNeighbour_73 (by decide) ?_
    obtain ⟨a15, σ15, hc15, h⟩ := bd_el h
    refine x_callVI C S KX10 hR14 (ok_X10_takeNumber (L := L) hc15 hSh hR14) ⟨cd_X10_takeNumber, ni_RX10, ml_RX5_73, in_X10_takeNumber, sl_X10_takeNumber⟩ ⟨by decide, by decide⟩ rfl (rm_ok (by decide) (by decide)) hl.1 rfl (Nat.le_of_ble_eq_true rfl) ⟨by decide, by decide⟩ dX5_parseNeighbour_76 (fun H locs S => ?_)
    obtain ⟨σ16, hs16, h⟩ := sq_el h
    refine x_putI C S KX4 hR4 3 (by decide) rfl rfl rfl ⟨rfl, rfl⟩ fl_RX5_135 dX5_parseNeighbour_79 hs16 (fun H locs S => ?_)
    refine lv_aload hx hb dX5_parseNeighbour_82 (lv_at hl 0 rfl) ?_
    refine lv_aload_n hx hb dX5_parseNeighbour_84 rfl (lv_at hl 2 rfl) ?_
    have hR17 : Ok 194 (R x0 0) 10 := hSh x0 5 0 10 hx0.1 rfl
    refine x_getR C S KX5 hx0 0 (by decide) rfl rfl fl_RX5_12 hR17 dX5_parseNeighbour_85 ?_
    refine lv_iconst (v := (0 : Int32)) hx hb dX5_parseNeighbour_88 (by decide) ?_
    refine lv_ldc (v := (99999 : Int32)) hx hb C.2.2.2.1 (C.2.2.2.2.1.w kc_RX5_138) dX5_parseNeighbour_89 ?_
    obtain ⟨a18, σ18, hc18, h⟩ := bd_el h
    refine x_callVI C S KX10 hR17 (ok_X10_takeNumber (L := L) hc18 hSh hR17) ⟨cd_X10_takeNumber, ni_RX10, ml_RX5_73, in_X10_takeNumber, sl_X10_takeNumber⟩ ⟨by decide, by decide⟩ rfl (rm_ok (by decide) (by decide)) hl.1 rfl (Nat.le_of_ble_eq_true rfl) ⟨by decide, by decide⟩ dX5_parseNeighbour_91 (fun H locs S => ?_)
    obtain ⟨σ19, hs19, h⟩ := sq_el h
    refine x_putI C S KX4 hR4 4 (by decide) rfl rfl rfl ⟨rfl, rfl⟩ fl_RX5_139 dX5_parseNeighbour_94 hs19 (fun H locs S => ?_)
    refine lv_aload hx hb dX5_parseNeighbour_97 (lv_at hl 0 rfl) ?_
    refine lv_iconst (v := (0 : Int32)) hx hb dX5_parseNeighbour_99 (by decide) ?_
    obtain ⟨σ20, hs20, h⟩ := sq_el h
    refine x_putI C S KX4 hR4 5 (by decide) rfl rfl rfl ⟨rfl, rfl⟩ fl_RX5_142 dX5_parseNeighbour_100 hs20 (fun H locs S => ?_)
    refine lv_iconst (v := (0 : Int32)) hx hb dX5_parseNeighbour_103 (by decide) ?_
    refine lv_istore (lv' := [(5, .int (0 : Int32)), (4, .ref (gb g + (R (R x1 0) (σ x1 9).toNatClampNeg))), (3, .int (σ x1 9)), (0, .ref (gb g + x0)), (1, .ref (gb g + x1)), (2, .int x2)]) hx hb dX5_parseNeighbour_104 hl (by decide) rfl (fun ls hl => ?_)
    exact w_X5_parseNeighbour_106 C hr hSh N σ20 x0 x1 (R (R x1 0) (σ x1 9).toNatClampNeg) (0 : Int32) h hx0 hx1 hR4 H locs ls S (lv_sub hl [3, 4, 1, 0] rfl)
  · have h := it_n c1 h
    refine lv_aload_n hx hb dX5_parseNeighbour_9 rfl (lv_at hl 0 rfl) ?_
    have hR30 : Ok 194 (R x0 0) 10 := hSh x0 5 0 10 hx0.1 rfl
    refine x_getR C S KX5 hx0 0 (by decide) rfl rfl fl_RX5_12 hR30 dX5_parseNeighbour_10 ?_
    refine lv_iload_n hx hb dX5_parseNeighbour_13 rfl (lv_at hl 2 rfl) ?_
    refine lv_iconst (v := (4 : Int32)) hx hb dX5_parseNeighbour_14 (by decide) ?_
    obtain ⟨a31, σ31, hc31, h⟩ := bd_el h
    refine x_callVV C S KX10 hR30 (ok_X10_fail (L := L) hc31 hSh hR30) ⟨cd_X10_fail, ni_RX10, ml_RX5_115, in_X10_fail, sl_X10_fail⟩ ⟨by decide, by decide⟩ rfl (rm_ok (by decide) (by decide)) hl.1 rfl (Nat.le_of_ble_eq_true rfl) ⟨by decide, by decide⟩ dX5_parseNeighbour_15 (fun H locs S => ?_)
    exact x_vret C S hr h dX5_parseNeighbour_18
theorem dX5_parseBlast_0 : decode cX5_parseBlast 0 = .ok (.aload_n 1, 1) := by decide +kernel
theorem dX5_parseBlast_1 : decode cX5_parseBlast 1 = .ok (.getfield 181, 3) := by decide +kernel
theorem dX5_parseBlast_4 : decode cX5_parseBlast 4 = .ok (.bipush 6, 2) := by decide +kernel
theorem dX5_parseBlast_6 : decode cX5_parseBlast 6 = .ok (.if_icmp .lt 13, 3) := by decide +kernel
theorem dX5_parseBlast_9 : decode cX5_parseBlast 9 = .ok (.aload_n 0, 1) := by decide +kernel
theorem dX5_parseBlast_10 : decode cX5_parseBlast 10 = .ok (.getfield 12, 3) := by decide +kernel
theorem dX5_parseBlast_13 : decode cX5_parseBlast 13 = .ok (.iload_n 2, 1) := by decide +kernel
theorem dX5_parseBlast_14 : decode cX5_parseBlast 14 = .ok (.iconst 4, 1) := by decide +kernel
theorem dX5_parseBlast_15 : decode cX5_parseBlast 15 = .ok (.invokevirtual 115, 3) := by decide +kernel
theorem dX5_parseBlast_18 : decode cX5_parseBlast 18 = .ok (.return_, 1) := by decide +kernel
theorem dX5_parseBlast_19 : decode cX5_parseBlast 19 = .ok (.aload_n 1, 1) := by decide +kernel
theorem dX5_parseBlast_20 : decode cX5_parseBlast 20 = .ok (.getfield 181, 3) := by decide +kernel
theorem dX5_parseBlast_23 : decode cX5_parseBlast 23 = .ok (.istore_n 3, 1) := by decide +kernel
theorem dX5_parseBlast_24 : decode cX5_parseBlast 24 = .ok (.aload_n 1, 1) := by decide +kernel
theorem dX5_parseBlast_25 : decode cX5_parseBlast 25 = .ok (.getfield 184, 3) := by decide +kernel
theorem dX5_parseBlast_28 : decode cX5_parseBlast 28 = .ok (.iload_n 3, 1) := by decide +kernel
theorem dX5_parseBlast_29 : decode cX5_parseBlast 29 = .ok (.aaload, 1) := by decide +kernel
theorem dX5_parseBlast_30 : decode cX5_parseBlast 30 = .ok (.astore 4, 2) := by decide +kernel
theorem dX5_parseBlast_32 : decode cX5_parseBlast 32 = .ok (.aload_n 1, 1) := by decide +kernel
theorem dX5_parseBlast_33 : decode cX5_parseBlast 33 = .ok (.getfield 188, 3) := by decide +kernel
theorem dX5_parseBlast_36 : decode cX5_parseBlast 36 = .ok (.iload_n 3, 1) := by decide +kernel
theorem dX5_parseBlast_37 : decode cX5_parseBlast 37 = .ok (.aload_n 0, 1) := by decide +kernel
theorem dX5_parseBlast_38 : decode cX5_parseBlast 38 = .ok (.getfield 12, 3) := by decide +kernel
theorem dX5_parseBlast_41 : decode cX5_parseBlast 41 = .ok (.aload_n 1, 1) := by decide +kernel
theorem dX5_parseBlast_42 : decode cX5_parseBlast 42 = .ok (.getfield 188, 3) := by decide +kernel
theorem dX5_parseBlast_45 : decode cX5_parseBlast 45 = .ok (.iload_n 3, 1) := by decide +kernel
theorem dX5_parseBlast_46 : decode cX5_parseBlast 46 = .ok (.invokevirtual 126, 3) := by decide +kernel
theorem dX5_parseBlast_49 : decode cX5_parseBlast 49 = .ok (.iastore, 1) := by decide +kernel
theorem dX5_parseBlast_50 : decode cX5_parseBlast 50 = .ok (.aload 4, 2) := by decide +kernel
theorem dX5_parseBlast_52 : decode cX5_parseBlast 52 = .ok (.aload_n 0, 1) := by decide +kernel
theorem dX5_parseBlast_53 : decode cX5_parseBlast 53 = .ok (.getfield 12, 3) := by decide +kernel
theorem dX5_parseBlast_56 : decode cX5_parseBlast 56 = .ok (.iconst 0, 1) := by decide +kernel
theorem dX5_parseBlast_57 : decode cX5_parseBlast 57 = .ok (.sipush 999, 3) := by decide +kernel
theorem dX5_parseBlast_60 : decode cX5_parseBlast 60 = .ok (.invokevirtual 73, 3) := by decide +kernel
theorem dX5_parseBlast_63 : decode cX5_parseBlast 63 = .ok (.putfield 191, 3) := by decide +kernel
theorem dX5_parseBlast_66 : decode cX5_parseBlast 66 = .ok (.aload 4, 2) := by decide +kernel
theorem dX5_parseBlast_68 : decode cX5_parseBlast 68 = .ok (.aload_n 0, 1) := by decide +kernel
theorem dX5_parseBlast_69 : decode cX5_parseBlast 69 = .ok (.getfield 12, 3) := by decide +kernel
theorem dX5_parseBlast_72 : decode cX5_parseBlast 72 = .ok (.iconst 0, 1) := by decide +kernel
theorem dX5_parseBlast_73 : decode cX5_parseBlast 73 = .ok (.sipush 999, 3) := by decide +kernel
theorem dX5_parseBlast_76 : decode cX5_parseBlast 76 = .ok (.invokevirtual 73, 3) := by decide +kernel
theorem dX5_parseBlast_79 : decode cX5_parseBlast 79 = .ok (.putfield 194, 3) := by decide +kernel
theorem dX5_parseBlast_82 : decode cX5_parseBlast 82 = .ok (.aload 4, 2) := by decide +kernel
theorem dX5_parseBlast_84 : decode cX5_parseBlast 84 = .ok (.aload_n 0, 1) := by decide +kernel
theorem dX5_parseBlast_85 : decode cX5_parseBlast 85 = .ok (.getfield 12, 3) := by decide +kernel
theorem dX5_parseBlast_88 : decode cX5_parseBlast 88 = .ok (.iconst 1, 1) := by decide +kernel
theorem dX5_parseBlast_89 : decode cX5_parseBlast 89 = .ok (.sipush 500, 3) := by decide +kernel
theorem dX5_parseBlast_92 : decode cX5_parseBlast 92 = .ok (.invokevirtual 73, 3) := by decide +kernel
theorem dX5_parseBlast_95 : decode cX5_parseBlast 95 = .ok (.putfield 195, 3) := by decide +kernel
theorem dX5_parseBlast_98 : decode cX5_parseBlast 98 = .ok (.aload 4, 2) := by decide +kernel
theorem dX5_parseBlast_100 : decode cX5_parseBlast 100 = .ok (.iconst 0, 1) := by decide +kernel
theorem dX5_parseBlast_101 : decode cX5_parseBlast 101 = .ok (.putfield 198, 3) := by decide +kernel
theorem dX5_parseBlast_104 : decode cX5_parseBlast 104 = .ok (.aload 4, 2) := by decide +kernel
theorem dX5_parseBlast_106 : decode cX5_parseBlast 106 = .ok (.iconst 0, 1) := by decide +kernel
theorem dX5_parseBlast_107 : decode cX5_parseBlast 107 = .ok (.putfield 202, 3) := by decide +kernel
theorem dX5_parseBlast_110 : decode cX5_parseBlast 110 = .ok (.aload_n 0, 1) := by decide +kernel
theorem dX5_parseBlast_111 : decode cX5_parseBlast 111 = .ok (.aload 4, 2) := by decide +kernel
theorem dX5_parseBlast_113 : decode cX5_parseBlast 113 = .ok (.invokevirtual 205, 3) := by decide +kernel
theorem dX5_parseBlast_116 : decode cX5_parseBlast 116 = .ok (.iconst 0, 1) := by decide +kernel
theorem dX5_parseBlast_117 : decode cX5_parseBlast 117 = .ok (.istore 5, 2) := by decide +kernel
theorem dX5_parseBlast_119 : decode cX5_parseBlast 119 = .ok (.iload 5, 2) := by decide +kernel
theorem dX5_parseBlast_121 : decode cX5_parseBlast 121 = .ok (.bipush 12, 2) := by decide +kernel
theorem dX5_parseBlast_123 : decode cX5_parseBlast 123 = .ok (.if_icmp .ge 35, 3) := by decide +kernel
theorem dX5_parseBlast_126 : decode cX5_parseBlast 126 = .ok (.aload_n 0, 1) := by decide +kernel
theorem dX5_parseBlast_127 : decode cX5_parseBlast 127 = .ok (.getfield 12, 3) := by decide +kernel
theorem dX5_parseBlast_130 : decode cX5_parseBlast 130 = .ok (.invokevirtual 26, 3) := by decide +kernel
theorem dX5_parseBlast_133 : decode cX5_parseBlast 133 = .ok (.ifCond .ne 25, 3) := by decide +kernel
theorem dX5_parseBlast_136 : decode cX5_parseBlast 136 = .ok (.aload_n 0, 1) := by decide +kernel
theorem dX5_parseBlast_137 : decode cX5_parseBlast 137 = .ok (.getfield 12, 3) := by decide +kernel
theorem dX5_parseBlast_140 : decode cX5_parseBlast 140 = .ok (.invokevirtual 145, 3) := by decide +kernel
theorem dX5_parseBlast_143 : decode cX5_parseBlast 143 = .ok (.ifCond .eq 15, 3) := by decide +kernel
theorem dX5_parseBlast_146 : decode cX5_parseBlast 146 = .ok (.aload_n 0, 1) := by decide +kernel
theorem dX5_parseBlast_147 : decode cX5_parseBlast 147 = .ok (.aload 4, 2) := by decide +kernel
theorem dX5_parseBlast_149 : decode cX5_parseBlast 149 = .ok (.invokevirtual 205, 3) := by decide +kernel
theorem dX5_parseBlast_152 : decode cX5_parseBlast 152 = .ok (.iinc 5 1, 3) := by decide +kernel
theorem dX5_parseBlast_155 : decode cX5_parseBlast 155 = .ok (.goto (-36), 3) := by decide +kernel
theorem dX5_parseBlast_158 : decode cX5_parseBlast 158 = .ok (.aload_n 1, 1) := by decide +kernel
theorem dX5_parseBlast_159 : decode cX5_parseBlast 159 = .ok (.dup, 1) := by decide +kernel
theorem dX5_parseBlast_160 : decode cX5_parseBlast 160 = .ok (.getfield 181, 3) := by decide +kernel
theorem dX5_parseBlast_163 : decode cX5_parseBlast 163 = .ok (.iconst 1, 1) := by decide +kernel
theorem dX5_parseBlast_164 : decode cX5_parseBlast 164 = .ok (.iadd, 1) := by decide +kernel
theorem dX5_parseBlast_165 : decode cX5_parseBlast 165 = .ok (.putfield 181, 3) := by decide +kernel
theorem dX5_parseBlast_168 : decode cX5_parseBlast 168 = .ok (.return_, 1) := by decide +kernel
def f_X5_parseBlast_158 (N : Nat) (R : Nat → Nat → Nat) (σ : SI) (x1 : Nat) : Option (Unit × SI) := sq (up σ x1 11 ((σ x1 11) + (1 : Int32))) (fun σ24 => some ((), σ24))
def f_X5_parseBlast_119 (N : Nat) (R : Nat → Nat → Nat) : Nat → SI → Nat → Nat → Nat → Int32 → Option (Unit × SI)
  | 0, _, _, _, _, _ => none
  | n + 1, σ, x0, x1, x4, x5 => if (12 : Int32) ≤ x5 then (f_X5_parseBlast_158 N R σ x1) else (bd (f_X10_failed N R σ (R x0 0)) (fun a26 σ26 => if a26 = 0 then (bd (f_X10_numberFollows N R σ26 (R x0 0)) (fun a29 σ29 => if a29 = 0 then (f_X5_parseBlast_158 N R σ29 x1) else (bd (f_X5_parseCharge N R σ29 x0 x4) (fun _ σ31 => f_X5_parseBlast_119 N R n σ31 x0 x1 x4 (x5 + 1))))) else (f_X5_parseBlast_158 N R σ26 x1)))
def f_X5_parseBlast (N : Nat) (R : Nat → Nat → Nat) (σ : SI) (x0 : Nat) (x1 : Nat) (x2 : Int32) : Option (Unit × SI) := if (σ x1 11) < (6 : Int32) then (ck (σ x1 11) 6 (bd (f_X10_takeName N R 6 σ (R x0 0) (R x1 5) (σ x1 11)) (fun a8 σ8 => ck (σ x1 11) 6 (sq (up σ8 (R x1 5) (σ x1 11).toNatClampNeg a8) (fun σ10 => bd (f_X10_takeNumber N R σ10 (R x0 0) (0 : Int32) (999 : Int32)) (fun a12 σ12 => sq (up σ12 (R (R x1 2) (σ x1 11).toNatClampNeg) 4 a12) (fun σ13 => bd (f_X10_takeNumber N R σ13 (R x0 0) (0 : Int32) (999 : Int32)) (fun a15 σ15 => sq (up σ15 (R (R x1 2) (σ x1 11).toNatClampNeg) 5 a15) (fun σ16 => bd (f_X10_takeNumber N R σ16 (R x0 0) (1 : Int32) (500 : Int32)) (fun a18 σ18 => sq (up σ18 (R (R x1 2) (σ x1 11).toNatClampNeg) 6 a18) (fun σ19 => sq (up σ19 (R (R x1 2) (σ x1 11).toNatClampNeg) 13 (0 : Int32)) (fun σ20 => sq (up σ20 (R (R x1 2) (σ x1 11).toNatClampNeg) 7 (0 : Int32)) (fun σ21 => bd (f_X5_parseCharge N R σ21 x0 (R (R x1 2) (σ x1 11).toNatClampNeg)) (fun _ σ22 => f_X5_parseBlast_119 N R N σ22 x0 x1 (R (R x1 2) (σ x1 11).toNatClampNeg) (0 : Int32))))))))))))))) else (bd (f_X10_fail N R σ (R x0 0) x2 (4 : Int32)) (fun _ σ33 => some ((), σ33)))
set_option maxHeartbeats 4000000 in
set_option maxRecDepth 100000 in
theorem w_X5_parseBlast_158 {l : Launch} {g : GL} {p : Program} {e : Jvm.Env} {s : State} {m : MethodId} {args : Array Value} {below : List Frame} {meth : Method} {c : Code} {R : Nat → Nat → Nat} {L : Nat → Nat → Int64} {r : (Unit × SI)} {N : Nat} (C : Cx l g p s m meth c cX5_parseBlast 6 RX5) (hr : meth.sig.returnType = none) (hSh : ShR R) : ∀ (σ : SI) (x1 : Nat), f_X5_parseBlast_158 N R σ x1 = some r → Ok 194 x1 9 → ∀ (H : Heap) (locs : List Loc) (ls : Array Slot), S2 g s σ R L H locs → lv_has ls 6 [(1, .ref (gb g + x1))] → W p l e (rmd 7 0 0) s m args below meth c H locs 0 0 (MQ below (Qg g 194 (PV R L r)) args s 0 0 (gA g)) (F0 m 158 ls []) := by
  have hx := C.1
  have hb := C.2.1
  intro σ x1 h hx1 H locs ls S hl
  rw [f_X5_parseBlast_158] at h
  refine lv_aload_n hx hb dX5_parseBlast_158 rfl (lv_at hl 0 rfl) ?_
  refine lv_dup hx hb dX5_parseBlast_159 rfl ?_
  refine x_getI C S KX9 hx1 11 (by decide) rfl rfl fl_RX5_181 dX5_parseBlast_160 ?_
  refine lv_iconst (v := (1 : Int32)) hx hb dX5_parseBlast_163 (by decide) ?_
  refine lv_iadd hx hb dX5_parseBlast_164 ?_
  obtain ⟨σ24, hs24, h⟩ := sq_el h
  refine x_putI C S KX9 hx1 11 (by decide) rfl rfl rfl ⟨rfl, rfl⟩ fl_RX5_181 dX5_parseBlast_165 hs24 (fun H locs S => ?_)
  exact x_vret C S hr h dX5_parseBlast_168
set_option maxHeartbeats 4000000 in
set_option maxRecDepth 100000 in
theorem w_X5_parseBlast_119 {l : Launch} {g : GL} {p : Program} {e : Jvm.Env} {s : State} {m : MethodId} {args : Array Value} {below : List Frame} {meth : Method} {c : Code} {R : Nat → Nat → Nat} {L : Nat → Nat → Int64} {r : (Unit × SI)} {N : Nat} (C : Cx l g p s m meth c cX5_parseBlast 6 RX5) (hr : meth.sig.returnType = none) (hSh : ShR R) : ∀ (n : Nat) (σ : SI) (x0 : Nat) (x1 : Nat) (x4 : Nat) (x5 : Int32), f_X5_parseBlast_119 N R n σ x0 x1 x4 x5 = some r → Ok 194 x0 5 → Ok 194 x1 9 → Ok 194 x4 0 → ∀ (H : Heap) (locs : List Loc) (ls : Array Slot), S2 g s σ R L H locs → lv_has ls 6 [(0, .ref (gb g + x0)), (1, .ref (gb g + x1)), (4, .ref (gb g + x4)), (5, .int x5)] → W p l e (rmd 7 0 0) s m args below meth c H locs 0 0 (MQ below (Qg g 194 (PV R L r)) args s 0 0 (gA g)) (F0 m 119 ls []) := by
  have hx := C.1
  have hb := C.2.1
  intro n
  induction n with
  | zero =>
    intro σ x0 x1 x4 x5 h
    cases (show (none : Option (Unit × SI)) = some r from h)
  | succ n ih =>
    intro σ x0 x1 x4 x5 h hx0 hx1 hx4 H locs ls S hl
    rw [f_X5_parseBlast_119] at h
    refine lv_iload hx hb dX5_parseBlast_119 (lv_at hl 3 rfl) ?_
    refine lv_bipush (v := (12 : Int32)) hx hb dX5_parseBlast_121 (by decide) ?_
    refine lv_icmp_ge (tgt := 158) hx hb dX5_parseBlast_123 (by decide) (fun c23 => ?_) (fun c23 => ?_)
    · have h := it_p c23 h
      exact w_X5_parseBlast_158 C hr hSh σ x1 h hx1 H locs ls S (lv_sub hl [1] rfl)
    · have h := it_n c23 h
      refine lv_aload_n hx hb dX5_parseBlast_126 rfl (lv_at hl 0 rfl) ?_
      have hR25 : Ok 194 (R x0 0) 10 := hSh x0 5 0 10 hx0.1 rfl
      refine x_getR C S KX5 hx0 0 (by decide) rfl rfl fl_RX5_12 hR25 dX5_parseBlast_127 ?_
      obtain ⟨a26, σ26, hc26, h⟩ := bd_el h
      refine x_callVI C S KX10 hR25 (ok_X10_failed (L := L) hc26 hSh hR25) ⟨cd_X10_failed, ni_RX10, ml_RX5_26, in_X10_failed, sl_X10_failed⟩ ⟨by decide, by decide⟩ rfl (rm_ok (by decide) (by decide)) hl.1 rfl (Nat.le_of_ble_eq_true rfl) ⟨by decide, by decide⟩ dX5_parseBlast_130 (fun H locs S => ?_)
      refine lv_if_ne (tgt := 158) hx hb dX5_parseBlast_133 (by decide) (fun c27 => ?_) (fun c27 => ?_)
      · have h := it_n c27 h
        exact w_X5_parseBlast_158 C hr hSh σ26 x1 h hx1 H locs ls S (lv_sub hl [1] rfl)
      · have h := it_p c27 h
        refine lv_aload_n hx hb dX5_parseBlast_136 rfl (lv_at hl 0 rfl) ?_
        have hR28 : Ok 194 (R x0 0) 10 := hSh x0 5 0 10 hx0.1 rfl
        refine x_getR C S KX5 hx0 0 (by decide) rfl rfl fl_RX5_12 hR28 dX5_parseBlast_137 ?_
        obtain ⟨a29, σ29, hc29, h⟩ := bd_el h
        refine x_callVI C S KX10 hR28 (ok_X10_numberFollows (L := L) hc29 hSh hR28) ⟨cd_X10_numberFollows, ni_RX10, ml_RX5_145, in_X10_numberFollows, sl_X10_numberFollows⟩ ⟨by decide, by decide⟩ rfl (rm_ok (by decide) (by decide)) hl.1 rfl (Nat.le_of_ble_eq_true rfl) ⟨by decide, by decide⟩ dX5_parseBlast_140 (fun H locs S => ?_)
        refine lv_if_eq (tgt := 158) hx hb dX5_parseBlast_143 (by decide) (fun c30 => ?_) (fun c30 => ?_)
        · have h := it_p c30 h
          exact w_X5_parseBlast_158 C hr hSh σ29 x1 h hx1 H locs ls S (lv_sub hl [1] rfl)
        · have h := it_n c30 h
          refine lv_aload_n hx hb dX5_parseBlast_146 rfl (lv_at hl 0 rfl) ?_
          refine lv_aload hx hb dX5_parseBlast_147 (lv_at hl 2 rfl) ?_
          obtain ⟨a31, σ31, hc31, h⟩ := bd_el h
          refine x_callVV C S KX5 hx0 (ok_X5_parseCharge (L := L) hc31 hSh hx0 hx4) ⟨cd_X5_parseCharge, ni_RX5, ml_RX5_205, in_X5_parseCharge, sl_X5_parseCharge⟩ ⟨by decide, by decide⟩ rfl (rm_ok (by decide) (by decide)) hl.1 rfl (Nat.le_of_ble_eq_true rfl) ⟨by decide, by decide⟩ dX5_parseBlast_149 (fun H locs S => ?_)
          refine lv_iinc (v := x5 + 1) (lv' := [(5, .int (x5 + 1)), (0, .ref (gb g + x0)), (1, .ref (gb g + x1)), (4, .ref (gb g + x4))]) hx hb dX5_parseBlast_152 hl (k := 3) rfl rfl (by decide) rfl (fun ls hl => ?_)
          refine lv_goto (tgt := 119) hx hb dX5_parseBlast_155 (by decide) ?_
          exact ih σ31 x0 x1 x4 (x5 + 1) h hx0 hx1 hx4 H locs ls S (lv_sub hl [1, 2, 3, 0] rfl)
set_option maxHeartbeats 4000000 in
set_option maxRecDepth 100000 in
theorem ok_X5_parseBlast {l : Launch} {g : GL} {R : Nat → Nat → Nat} {L : Nat → Nat → Int64} {N : Nat} {σ : SI} {x0 : Nat} {x1 : Nat} {x2 : Int32} {r : (Unit × SI)} (h : f_X5_parseBlast N R σ x0 x1 x2 = some r) (hSh : ShR R) (hx0 : Ok 194 x0 5) (hx1 : Ok 194 x1 9) : Ct l g 7 yX5_parseBlast cX5_parseBlast 6 none 194 194 0 0 [.ref (gb g + x0), .ref (gb g + x1), .int x2] (mkS σ R L) (PV R L r) := by
  refine Met.ofW (cc := cX5_parseBlast) (maxL := 6) (ret := none) (by decide) rfl ?_
  intro p e s m args below meth c s₁ B hml hv
  obtain ⟨rfl, hE, hLo, hWd⟩ := hv
  have hr : meth.sig.returnType = none := B.returns
  have C : Cx l g p s m meth c cX5_parseBlast 6 RX5 := ⟨B.exec, B.bytes, hml, findClass_of_methodNamed B.named, hE, hLo, B.notSynchronized⟩
  have S : S2 g s σ R L s.heap [] := ⟨hWd, va_S.rf⟩
  have hx := C.1
  have hb := C.2.1
  have hl := lv_entry ([.ref (gb g + x0), .ref (gb g + x1), .int x2]) (n := 6) (Nat.le_of_ble_eq_true rfl)
  rw [lg_entry_eq]
  generalize (lg_sl ([.ref (gb g + x0), .ref (gb g + x1), .int x2]) ++ List.replicate (6 - (lg_sl ([.ref (gb g + x0), .ref (gb g + x1), .int x2])).length) Slot.unset).toArray = ls at hl ⊢
  have hl : lv_has ls 6 [(0, .ref (gb g + x0)), (1, .ref (gb g + x1)), (2, .int x2)] := hl
  generalize hH : s.heap = H at S ⊢
  generalize hlc : ([] : List Loc) = locs at S ⊢
  rw [f_X5_parseBlast] at h
  refine lv_aload_n hx hb dX5_parseBlast_0 rfl (lv_at hl 1 rfl) ?_
  refine x_getI C S KX9 hx1 11 (by decide) rfl rfl fl_RX5_181 dX5_parseBlast_1 ?_
  refine lv_bipush (v := (6 : Int32)) hx hb dX5_parseBlast_4 (by decide) ?_
  refine lv_icmp_lt (tgt := 19) hx hb dX5_parseBlast_6 (by decide) (fun c1 => ?_) (fun c1 => ?_)
  · have h := it_p c1 h
    refine lv_aload_n hx hb dX5_parseBlast_19 rfl (lv_at hl 1 rfl) ?_
    refine x_getI C S KX9 hx1 11 (by decide) rfl rfl fl_RX5_181 dX5_parseBlast_20 ?_
    refine lv_istore_n (lv' := [(3, .int (σ x1 11)), (0, .ref (gb g + x0)), (1, .ref (gb g + x1)), (2, .int x2)]) hx hb dX5_parseBlast_23 rfl hl (by decide) rfl (fun ls hl => ?_)
    refine lv_aload_n hx hb dX5_parseBlast_24 rfl (lv_at hl 2 rfl) ?_
    have hR2 : Ok 194 (R x1 2) 50006 := hSh x1 9 2 50006 hx1.1 rfl
    refine x_getR C S KX9 hx1 2 (by decide) rfl rfl fl_RX5_184 hR2 dX5_parseBlast_25 ?_
    refine lv_iload_n hx hb dX5_parseBlast_28 rfl (lv_at hl 0 rfl) ?_
    obtain ⟨hi3, h⟩ := ck_el h
    have hR4 : Ok 194 (R (R x1 2) (σ x1 11).toNatClampNeg) 0 := hSh (R x1 2) 50006 (σ x1 11).toNatClampNeg 0 hR2.1 (if_pos (vp_lt hi3))
    refine x_aald (len := 6) C S (by decide) 4 (by decide) rfl hR2 hi3 hR4 dX5_parseBlast_29 ?_
    refine lv_astore (lv' := [(4, .ref (gb g + (R (R x1 2) (σ x1 11).toNatClampNeg))), (3, .int (σ x1 11)), (0, .ref (gb g + x0)), (1, .ref (gb g + x1)), (2, .int x2)]) hx hb dX5_parseBlast_30 hl (by decide) rfl (fun ls hl => ?_)
    refine lv_aload_n hx hb dX5_parseBlast_32 rfl (lv_at hl 3 rfl) ?_
    have hR5 : Ok 194 (R x1 5) 10006 := hSh x1 9 5 10006 hx1.1 rfl
    refine x_getR C S KX9 hx1 5 (by decide) rfl rfl fl_RX5_188 hR5 dX5_parseBlast_33 ?_
    refine lv_iload_n hx hb dX5_parseBlast_36 rfl (lv_at hl 1 rfl) ?_
    refine lv_aload_n hx hb dX5_parseBlast_37 rfl (lv_at hl 2 rfl) ?_
    have hR6 : Ok 194 (R x0 0) 10 := hSh x0 5 0 10 hx0.1 rfl
    refine x_getR C S KX5 hx0 0 (by decide) rfl rfl fl_RX5_12 hR6 dX5_parseBlast_38 ?_
    refine lv_aload_n hx hb dX5_parseBlast_41 rfl (lv_at hl 3 rfl) ?_
    have hR7 : Ok 194 (R x1 5) 10006 := hSh x1 9 5 10006 hx1.1 rfl
    refine x_getR C S KX9 hx1 5 (by decide) rfl rfl fl_RX5_188 hR7 dX5_parseBlast_42 ?_
    refine lv_iload_n hx hb dX5_parseBlast_45 rfl (lv_at hl 1 rfl) ?_
    obtain ⟨a8, σ8, hc8, h⟩ := bd_el h
    refine x_callVI C S KX10 hR6 (ok_X10_takeName (L := L) hc8 hSh (by decide) hR6 hR7) ⟨cd_X10_takeName, ni_RX10, ml_RX5_126, in_X10_takeName, sl_X10_takeName⟩ ⟨by decide, by decide⟩ rfl (rm_ok (by decide) (by decide)) hl.1 rfl (Nat.le_of_ble_eq_true rfl) ⟨by decide, by decide⟩ dX5_parseBlast_46 (fun H locs S => ?_)
    obtain ⟨hi9, h⟩ := ck_el h
    obtain ⟨σ10, hs10, h⟩ := sq_el h
    refine x_iast (len := 6) C S (by decide) hR5 hi9 dX5_parseBlast_49 hs10 (fun H locs S => ?_)
    refine lv_aload hx hb dX5_parseBlast_50 (lv_at hl 0 rfl) ?_
    refine lv_aload_n hx hb dX5_parseBlast_52 rfl (lv_at hl 2 rfl) ?_
    have hR11 : Ok 194 (R x0 0) 10 := hSh x0 5 0 10 hx0.1 rfl
    refine x_getR C S KX5 hx0 0 (by decide) rfl rfl fl_RX5_12 hR11 dX5_parseBlast_53 ?_
    refine lv_iconst (v := (0 : Int32)) hx hb dX5_parseBlast_56 (by decide) ?_
    refine lv_sipush (v := (999 : Int32)) hx hb dX5_parseBlast_57 (by decide) ?_
    obtain ⟨a12, σ12, hc12, h⟩ := bd_el h
    refine x_callVI C S KX10 hR11 (ok_X10_takeNumber (L := L) hc12 hSh hR11) ⟨cd_X10_takeNumber, ni_RX10, ml_RX5_73, in_X10_takeNumber, sl_X10_takeNumber⟩ ⟨by decide, by decide⟩ rfl (rm_ok (by decide) (by decide)) hl.1 rfl (Nat.le_of_ble_eq_true rfl) ⟨by decide, by decide⟩ dX5_parseBlast_60 (fun H locs S => ?_)
    obtain ⟨σ13, hs13, h⟩ := sq_el h
    refine x_putI C S KX0 hR4 4 (by decide) rfl rfl rfl ⟨rfl, rfl⟩ fl_RX5_191 dX5_parseBlast_63 hs13 (fun H locs S => ?_)
    refine lv_aload hx hb dX5_parseBlast_66 (lv_at hl 0 rfl) ?_
    refine lv_aload_n hx hb dX5_parseBlast_68 rfl (lv_at hl 2 rfl) ?_
    have hR14 : Ok 194 (R x0 0) 10 := hSh x0 5 0 10 hx0.1 rfl
    refine x_getR C S KX5 hx0 0 (by decide) rfl rfl fl_RX5_12 hR14 dX5_parseBlast_69 ?_
    refine lv_iconst (v := (0 : Int32)) hx hb dX5_parseBlast_72 (by decide) ?_
    refine lv_sipush (v := (999 : Int32)) hx hb dX5_parseBlast_73 (by decide) ?_
    obtain ⟨a15, σ15, hc15, h⟩ := bd_el h
    refine x_callVI C S KX10 hR14 (ok_X10_takeNumber (L := L) hc15 hSh hR14) ⟨cd_X10_takeNumber, ni_RX10, ml_RX5_73, in_X10_takeNumber, sl_X10_takeNumber⟩ ⟨by decide, by decide⟩ rfl (rm_ok (by decide) (by decide)) hl.1 rfl (Nat.le_of_ble_eq_true rfl) ⟨by decide, by decide⟩ dX5_parseBlast_76 (fun H locs S => ?_)
    obtain ⟨σ16, hs16, h⟩ := sq_el h
    refine x_putI C S KX0 hR4 5 (by decide) rfl rfl rfl ⟨rfl, rfl⟩ fl_RX5_194 dX5_parseBlast_79 hs16 (fun H locs S => ?_)
    refine lv_aload hx hb dX5_parseBlast_82 (lv_at hl 0 rfl) ?_
    refine lv_aload_n hx hb dX5_parseBlast_84 rfl (lv_at hl 2 rfl) ?_
    have hR17 : Ok 194 (R x0 0) 10 := hSh x0 5 0 10 hx0.1 rfl
    refine x_getR C S KX5 hx0 0 (by decide) rfl rfl fl_RX5_12 hR17 dX5_parseBlast_85 ?_
    refine lv_iconst (v := (1 : Int32)) hx hb dX5_parseBlast_88 (by decide) ?_
    refine lv_sipush (v := (500 : Int32)) hx hb dX5_parseBlast_89 (by decide) ?_
    obtain ⟨a18, σ18, hc18, h⟩ := bd_el h
    refine x_callVI C S KX10 hR17 (ok_X10_takeNumber (L := L) hc18 hSh hR17) ⟨cd_X10_takeNumber, ni_RX10, ml_RX5_73, in_X10_takeNumber, sl_X10_takeNumber⟩ ⟨by decide, by decide⟩ rfl (rm_ok (by decide) (by decide)) hl.1 rfl (Nat.le_of_ble_eq_true rfl) ⟨by decide, by decide⟩ dX5_parseBlast_92 (fun H locs S => ?_)
    obtain ⟨σ19, hs19, h⟩ := sq_el h
    refine x_putI C S KX0 hR4 6 (by decide) rfl rfl rfl ⟨rfl, rfl⟩ fl_RX5_195 dX5_parseBlast_95 hs19 (fun H locs S => ?_)
    refine lv_aload hx hb dX5_parseBlast_98 (lv_at hl 0 rfl) ?_
    refine lv_iconst (v := (0 : Int32)) hx hb dX5_parseBlast_100 (by decide) ?_
    obtain ⟨σ20, hs20, h⟩ := sq_el h
    refine x_putI C S KX0 hR4 13 (by decide) rfl rfl rfl ⟨rfl, rfl⟩ fl_RX5_198 dX5_parseBlast_101 hs20 (fun H locs S => ?_)
    refine lv_aload hx hb dX5_parseBlast_104 (lv_at hl 0 rfl) ?_
    refine lv_iconst (v := (0 : Int32)) hx hb dX5_parseBlast_106 (by decide) ?_
    obtain ⟨σ21, hs21, h⟩ := sq_el h
    refine x_putI C S KX0 hR4 7 (by decide) rfl rfl rfl ⟨rfl, rfl⟩ fl_RX5_202 dX5_parseBlast_107 hs21 (fun H locs S => ?_)
    refine lv_aload_n hx hb dX5_parseBlast_110 rfl (lv_at hl 2 rfl) ?_
    refine lv_aload hx hb dX5_parseBlast_111 (lv_at hl 0 rfl) ?_
    obtain ⟨a22, σ22, hc22, h⟩ := bd_el h
    refine x_callVV C S KX5 hx0 (ok_X5_parseCharge (L := L) hc22 hSh hx0 hR4) ⟨cd_X5_parseCharge, ni_RX5, ml_RX5_205, in_X5_parseCharge, sl_X5_parseCharge⟩ ⟨by decide, by decide⟩ rfl (rm_ok (by decide) (by decide)) hl.1 rfl (Nat.le_of_ble_eq_true rfl) ⟨by decide, by decide⟩ dX5_parseBlast_113 (fun H locs S => ?_)
    refine lv_iconst (v := (0 : Int32)) hx hb dX5_parseBlast_116 (by decide) ?_
    refine lv_istore (lv' := [(5, .int (0 : Int32)), (4, .ref (gb g + (R (R x1 2) (σ x1 11).toNatClampNeg))), (3, .int (σ x1 11)), (0, .ref (gb g + x0)), (1, .ref (gb g + x1)), (2, .int x2)]) hx hb dX5_parseBlast_117 hl (by decide) rfl (fun ls hl => ?_)
    exact w_X5_parseBlast_119 C hr hSh N σ22 x0 x1 (R (R x1 2) (σ x1 11).toNatClampNeg) (0 : Int32) h hx0 hx1 hR4 H locs ls S (lv_sub hl [3, 4, 1, 0] rfl)
  · have h := it_n c1 h
    refine lv_aload_n hx hb dX5_parseBlast_9 rfl (lv_at hl 0 rfl) ?_
    have hR32 : Ok 194 (R x0 0) 10 := hSh x0 5 0 10 hx0.1 rfl
    refine x_getR C S KX5 hx0 0 (by decide) rfl rfl fl_RX5_12 hR32 dX5_parseBlast_10 ?_
    refine lv_iload_n hx hb dX5_parseBlast_13 rfl (lv_at hl 2 rfl) ?_
    refine lv_iconst (v := (4 : Int32)) hx hb dX5_parseBlast_14 (by decide) ?_
    obtain ⟨a33, σ33, hc33, h⟩ := bd_el h
    refine x_callVV C S KX10 hR32 (ok_X10_fail (L := L) hc33 hSh hR32) ⟨cd_X10_fail, ni_RX10, ml_RX5_115, in_X10_fail, sl_X10_fail⟩ ⟨by decide, by decide⟩ rfl (rm_ok (by decide) (by decide)) hl.1 rfl (Nat.le_of_ble_eq_true rfl) ⟨by decide, by decide⟩ dX5_parseBlast_15 (fun H locs S => ?_)
    exact x_vret C S hr h dX5_parseBlast_18
theorem dX6_place_0 : decode cX6_place 0 = .ok (.aload_n 0, 1) := by decide +kernel
theorem dX6_place_1 : decode cX6_place 1 = .ok (.getfield 37, 3) := by decide +kernel
theorem dX6_place_4 : decode cX6_place 4 = .ok (.iconst (-1), 1) := by decide +kernel
theorem dX6_place_5 : decode cX6_place 5 = .ok (.if_icmp .eq 12, 3) := by decide +kernel
theorem dX6_place_8 : decode cX6_place 8 = .ok (.iload_n 3, 1) := by decide +kernel
theorem dX6_place_9 : decode cX6_place 9 = .ok (.aload_n 0, 1) := by decide +kernel
theorem dX6_place_10 : decode cX6_place 10 = .ok (.getfield 37, 3) := by decide +kernel
theorem dX6_place_13 : decode cX6_place 13 = .ok (.if_icmp .lt 4, 3) := by decide +kernel
theorem dX6_place_16 : decode cX6_place 16 = .ok (.return_, 1) := by decide +kernel
theorem dX6_place_17 : decode cX6_place 17 = .ok (.iload_n 2, 1) := by decide +kernel
theorem dX6_place_18 : decode cX6_place 18 = .ok (.aload_n 0, 1) := by decide +kernel
theorem dX6_place_19 : decode cX6_place 19 = .ok (.getfield 25, 3) := by decide +kernel
theorem dX6_place_22 : decode cX6_place 22 = .ok (.if_icmp .ge 8, 3) := by decide +kernel
theorem dX6_place_25 : decode cX6_place 25 = .ok (.iload_n 2, 1) := by decide +kernel
theorem dX6_place_26 : decode cX6_place 26 = .ok (.iconst 4, 1) := by decide +kernel
theorem dX6_place_27 : decode cX6_place 27 = .ok (.if_icmp .lt 10, 3) := by decide +kernel
theorem dX6_place_30 : decode cX6_place 30 = .ok (.aload_n 0, 1) := by decide +kernel
theorem dX6_place_31 : decode cX6_place 31 = .ok (.aload_n 1, 1) := by decide +kernel
theorem dX6_place_32 : decode cX6_place 32 = .ok (.iload_n 3, 1) := by decide +kernel
theorem dX6_place_33 : decode cX6_place 33 = .ok (.invokevirtual 44, 3) := by decide +kernel
theorem dX6_place_36 : decode cX6_place 36 = .ok (.return_, 1) := by decide +kernel
theorem dX6_place_37 : decode cX6_place 37 = .ok (.aload_n 0, 1) := by decide +kernel
theorem dX6_place_38 : decode cX6_place 38 = .ok (.getfield 9, 3) := by decide +kernel
theorem dX6_place_41 : decode cX6_place 41 = .ok (.iload_n 2, 1) := by decide +kernel
theorem dX6_place_42 : decode cX6_place 42 = .ok (.iaload, 1) := by decide +kernel
theorem dX6_place_43 : decode cX6_place 43 = .ok (.istore 4, 2) := by decide +kernel
theorem dX6_place_45 : decode cX6_place 45 = .ok (.aload_n 1, 1) := by decide +kernel
theorem dX6_place_46 : decode cX6_place 46 = .ok (.invokevirtual 48, 3) := by decide +kernel
theorem dX6_place_49 : decode cX6_place 49 = .ok (.istore 5, 2) := by decide +kernel
theorem dX6_place_51 : decode cX6_place 51 = .ok (.iconst 0, 1) := by decide +kernel
theorem dX6_place_52 : decode cX6_place 52 = .ok (.istore 6, 2) := by decide +kernel
theorem dX6_place_54 : decode cX6_place 54 = .ok (.iload 6, 2) := by decide +kernel
theorem dX6_place_56 : decode cX6_place 56 = .ok (.iload 5, 2) := by decide +kernel
theorem dX6_place_58 : decode cX6_place 58 = .ok (.if_icmp .ge 72, 3) := by decide +kernel
theorem dX6_place_61 : decode cX6_place 61 = .ok (.aload_n 1, 1) := by decide +kernel
theorem dX6_place_62 : decode cX6_place 62 = .ok (.iload 6, 2) := by decide +kernel
theorem dX6_place_64 : decode cX6_place 64 = .ok (.invokevirtual 52, 3) := by decide +kernel
theorem dX6_place_67 : decode cX6_place 67 = .ok (.istore 7, 2) := by decide +kernel
theorem dX6_place_69 : decode cX6_place 69 = .ok (.aload_n 1, 1) := by decide +kernel
theorem dX6_place_70 : decode cX6_place 70 = .ok (.iload 4, 2) := by decide +kernel
theorem dX6_place_72 : decode cX6_place 72 = .ok (.iload 7, 2) := by decide +kernel
theorem dX6_place_74 : decode cX6_place 74 = .ok (.aload_n 0, 1) := by decide +kernel
theorem dX6_place_75 : decode cX6_place 75 = .ok (.getfield 15, 3) := by decide +kernel
theorem dX6_place_78 : decode cX6_place 78 = .ok (.invokevirtual 56, 3) := by decide +kernel
theorem dX6_place_81 : decode cX6_place 81 = .ok (.ifCond .ne 43, 3) := by decide +kernel
theorem dX6_place_84 : decode cX6_place 84 = .ok (.iload_n 3, 1) := by decide +kernel
theorem dX6_place_85 : decode cX6_place 85 = .ok (.aload_n 0, 1) := by decide +kernel
theorem dX6_place_86 : decode cX6_place 86 = .ok (.aload_n 1, 1) := by decide +kernel
theorem dX6_place_87 : decode cX6_place 87 = .ok (.iload 4, 2) := by decide +kernel
theorem dX6_place_89 : decode cX6_place 89 = .ok (.iload 7, 2) := by decide +kernel
theorem dX6_place_91 : decode cX6_place 91 = .ok (.invokevirtual 60, 3) := by decide +kernel
theorem dX6_place_94 : decode cX6_place 94 = .ok (.iadd, 1) := by decide +kernel
theorem dX6_place_95 : decode cX6_place 95 = .ok (.istore 8, 2) := by decide +kernel
theorem dX6_place_97 : decode cX6_place 97 = .ok (.aload_n 0, 1) := by decide +kernel
theorem dX6_place_98 : decode cX6_place 98 = .ok (.getfield 15, 3) := by decide +kernel
theorem dX6_place_101 : decode cX6_place 101 = .ok (.iload 4, 2) := by decide +kernel
theorem dX6_place_103 : decode cX6_place 103 = .ok (.iload 7, 2) := by decide +kernel
theorem dX6_place_105 : decode cX6_place 105 = .ok (.iastore, 1) := by decide +kernel
theorem dX6_place_106 : decode cX6_place 106 = .ok (.aload_n 0, 1) := by decide +kernel
theorem dX6_place_107 : decode cX6_place 107 = .ok (.aload_n 1, 1) := by decide +kernel
theorem dX6_place_108 : decode cX6_place 108 = .ok (.iload_n 2, 1) := by decide +kernel
theorem dX6_place_109 : decode cX6_place 109 = .ok (.iconst 1, 1) := by decide +kernel
theorem dX6_place_110 : decode cX6_place 110 = .ok (.iadd, 1) := by decide +kernel
theorem dX6_place_111 : decode cX6_place 111 = .ok (.iload 8, 2) := by decide +kernel
theorem dX6_place_113 : decode cX6_place 113 = .ok (.invokestatic 40, 3) := by decide +kernel
theorem dX6_place_116 : decode cX6_place 116 = .ok (.aload_n 0, 1) := by decide +kernel
theorem dX6_place_117 : decode cX6_place 117 = .ok (.getfield 15, 3) := by decide +kernel
theorem dX6_place_120 : decode cX6_place 120 = .ok (.iload 4, 2) := by decide +kernel
theorem dX6_place_122 : decode cX6_place 122 = .ok (.iconst (-1), 1) := by decide +kernel
theorem dX6_place_123 : decode cX6_place 123 = .ok (.iastore, 1) := by decide +kernel
theorem dX6_place_124 : decode cX6_place 124 = .ok (.iinc 6 1, 3) := by decide +kernel
theorem dX6_place_127 : decode cX6_place 127 = .ok (.goto (-73), 3) := by decide +kernel
theorem dX6_place_130 : decode cX6_place 130 = .ok (.return_, 1) := by decide +kernel
def f_X6_place_30 (N : Nat) (R : Nat → Nat → Nat) (kr : SI → Nat → Nat → Int32 → Int32 → Option (Unit × SI)) (σ : SI) (x0 : Nat) (x1 : Nat) (x3 : Int32) : Option (Unit × SI) := bd (f_X6_keep N R σ x0 x1 x3) (fun _ σ3 => some ((), σ3))
def f_X6_place_124 (N : Nat) (R : Nat → Nat → Nat) (kr : SI → Nat → Nat → Int32 → Int32 → Option (Unit × SI)) (k54 : SI → Nat → Nat → Int32 → Int32 → Int32 → Int32 → Int32 → Option (Unit × SI)) (σ : SI) (x0 : Nat) (x1 : Nat) (x2 : Int32) (x3 : Int32) (x4 : Int32) (x5 : Int32) (x6 : Int32) : Option (Unit × SI) := k54 σ x0 x1 x2 x3 x4 x5 (x6 + 1)
def f_X6_place_54 (N : Nat) (R : Nat → Nat → Nat) (kr : SI → Nat → Nat → Int32 → Int32 → Option (Unit × SI)) : Nat → SI → Nat → Nat → Int32 → Int32 → Int32 → Int32 → Int32 → Option (Unit × SI)
  | 0, _, _, _, _, _, _, _, _ => none
  | n + 1, σ, x0, x1, x2, x3, x4, x5, x6 => if x5 ≤ x6 then (some ((), σ)) else (bd (f_X9_startAt N R σ x1 x6) (fun a9 σ9 => bd (f_X9_reasonAgainst N R σ9 x1 x4 a9 (R x0 1)) (fun a11 σ11 => if a11 = 0 then (bd (f_X6_newlyClosed N R σ11 x0 x1 x4 a9) (fun a13 σ13 => ck x4 6 (sq (up σ13 (R x0 1) x4.toNatClampNeg a9) (fun σ16 => bd (kr σ16 x0 x1 (x2 + (1 : Int32)) (x3 + a13)) (fun _ σ17 => ck x4 6 (sq (up σ17 (R x0 1) x4.toNatClampNeg (-1 : Int32)) (fun σ20 => f_X6_place_124 N R kr (fun σ x0 x1 x2 x3 x4 x5 x6 => f_X6_place_54 N R kr n σ x0 x1 x2 x3 x4 x5 x6) σ20 x0 x1 x2 x3 x4 x5 x6))))))) else (f_X6_place_124 N R kr (fun σ x0 x1 x2 x3 x4 x5 x6 => f_X6_place_54 N R kr n σ x0 x1 x2 x3 x4 x5 x6) σ11 x0 x1 x2 x3 x4 x5 x6))))
def f_X6_place_17 (N : Nat) (R : Nat → Nat → Nat) (kr : SI → Nat → Nat → Int32 → Int32 → Option (Unit × SI)) (σ : SI) (x0 : Nat) (x1 : Nat) (x2 : Int32) (x3 : Int32) : Option (Unit × SI) := if (σ x0 3) ≤ x2 then (f_X6_place_30 N R kr σ x0 x1 x3) else (if x2 < (4 : Int32) then (ck x2 4 (bd (f_X9_startTotal N R σ x1) (fun a7 σ7 => f_X6_place_54 N R kr N σ7 x0 x1 x2 x3 (σ (R x0 0) x2.toNatClampNeg) a7 (0 : Int32)))) else (f_X6_place_30 N R kr σ x0 x1 x3))
def f_X6_place (N : Nat) (R : Nat → Nat → Nat) : Nat → SI → Nat → Nat → Int32 → Int32 → Option (Unit × SI)
  | 0, _, _, _, _, _ => none
  | d + 1, σ, x0, x1, x2, x3 => if (σ x0 4) = (-1 : Int32) then (f_X6_place_17 N R (fun σ x0 x1 x2 x3 => f_X6_place N R d σ x0 x1 x2 x3) σ x0 x1 x2 x3) else (if x3 < (σ x0 4) then (f_X6_place_17 N R (fun σ x0 x1 x2 x3 => f_X6_place N R d σ x0 x1 x2 x3) σ x0 x1 x2 x3) else (some ((), σ)))
set_option maxHeartbeats 4000000 in
set_option maxRecDepth 100000 in
theorem w_X6_place_30 {l : Launch} {g : GL} {p : Program} {e : Jvm.Env} {s : State} {m : MethodId} {args : Array Value} {below : List Frame} {meth : Method} {c : Code} {d : Nat} {R : Nat → Nat → Nat} {L : Nat → Nat → Int64} {r : (Unit × SI)} {N : Nat} {kr : SI → Nat → Nat → Int32 → Int32 → Option (Unit × SI)} (C : Cx l g p s m meth c cX6_place 9 RX6) (hr : meth.sig.returnType = none) (hSh : ShR R) (hkr : ∀ (σ : SI) (x0 : Nat) (x1 : Nat) (x2 : Int32) (x3 : Int32) (r : (Unit × SI)), kr σ x0 x1 x2 x3 = some r → Ok 194 x0 6 → Ok 194 x1 9 → Ct l g (4 + d) yX6_place cX6_place 9 none 194 194 0 0 [.ref (gb g + x0), .ref (gb g + x1), .int x2, .int x3] (mkS σ R L) (PV R L r)) : ∀ (σ : SI) (x0 : Nat) (x1 : Nat) (x3 : Int32), f_X6_place_30 N R kr σ x0 x1 x3 = some r → Ok 194 x0 6 → Ok 194 x1 9 → ∀ (H : Heap) (locs : List Loc) (ls : Array Slot), S2 g s σ R L H locs → lv_has ls 9 [(0, .ref (gb g + x0)), (1, .ref (gb g + x1)), (3, .int x3)] → W p l e (rmd (4 + d + 1) 0 0) s m args below meth c H locs 0 0 (MQ below (Qg g 194 (PV R L r)) args s 0 0 (gA g)) (F0 m 30 ls []) := by
  have hx := C.1
  have hb := C.2.1
  intro σ x0 x1 x3 h hx0 hx1 H locs ls S hl
  rw [f_X6_place_30] at h
  refine lv_aload_n hx hb dX6_place_30 rfl (lv_at hl 0 rfl) ?_
  refine lv_aload_n hx hb dX6_place_31 rfl (lv_at hl 1 rfl) ?_
  refine lv_iload_n hx hb dX6_place_32 rfl (lv_at hl 2 rfl) ?_
  obtain ⟨a3, σ3, hc3, h⟩ := bd_el h
  refine x_callVV C S KX6 hx0 (ok_X6_keep (L := L) hc3 hSh hx0 hx1) ⟨cd_X6_keep, ni_RX6, ml_RX6_44, in_X6_keep, sl_X6_keep⟩ ⟨by decide, by decide⟩ rfl (rm_ok (by omega) (by decide)) hl.1 rfl (Nat.le_of_ble_eq_true rfl) ⟨Nat.le_of_ble_eq_true rfl, Nat.le_of_ble_eq_true rfl⟩ dX6_place_33 (fun H locs S => ?_)
  exact x_vret C S hr h dX6_place_36
set_option maxHeartbeats 4000000 in
set_option maxRecDepth 100000 in
theorem w_X6_place_124 {l : Launch} {g : GL} {p : Program} {e : Jvm.Env} {s : State} {m : MethodId} {args : Array Value} {below : List Frame} {meth : Method} {c : Code} {d : Nat} {R : Nat → Nat → Nat} {L : Nat → Nat → Int64} {r : (Unit × SI)} {N : Nat} {kr : SI → Nat → Nat → Int32 → Int32 → Option (Unit × SI)} {k54 : SI → Nat → Nat → Int32 → Int32 → Int32 → Int32 → Int32 → Option (Unit × SI)} (C : Cx l g p s m meth c cX6_place 9 RX6) (hr : meth.sig.returnType = none) (hSh : ShR R) (hkr : ∀ (σ : SI) (x0 : Nat) (x1 : Nat) (x2 : Int32) (x3 : Int32) (r : (Unit × SI)), kr σ x0 x1 x2 x3 = some r → Ok 194 x0 6 → Ok 194 x1 9 → Ct l g (4 + d) yX6_place cX6_place 9 none 194 194 0 0 [.ref (gb g + x0), .ref (gb g + x1), .int x2, .int x3] (mkS σ R L) (PV R L r)) (hk54 : ∀ (σ : SI) (x0 : Nat) (x1 : Nat) (x2 : Int32) (x3 : Int32) (x4 : Int32) (x5 : Int32) (x6 : Int32), k54 σ x0 x1 x2 x3 x4 x5 x6 = some r → Ok 194 x0 6 → Ok 194 x1 9 → ∀ (H : Heap) (locs : List Loc) (ls : Array Slot), S2 g s σ R L H locs → lv_has ls 9 [(0, .ref (gb g + x0)), (1, .ref (gb g + x1)), (2, .int x2), (3, .int x3), (4, .int x4), (5, .int x5), (6, .int x6)] → W p l e (rmd (4 + d + 1) 0 0) s m args below meth c H locs 0 0 (MQ below (Qg g 194 (PV R L r)) args s 0 0 (gA g)) (F0 m 54 ls [])) : ∀ (σ : SI) (x0 : Nat) (x1 : Nat) (x2 : Int32) (x3 : Int32) (x4 : Int32) (x5 : Int32) (x6 : Int32), f_X6_place_124 N R kr k54 σ x0 x1 x2 x3 x4 x5 x6 = some r → Ok 194 x0 6 → Ok 194 x1 9 → ∀ (H : Heap) (locs : List Loc) (ls : Array Slot), S2 g s σ R L H locs → lv_has ls 9 [(0, .ref (gb g + x0)), (1, .ref (gb g + x1)), (2, .int x2), (3, .int x3), (4, .int x4), (5, .int x5), (6, .int x6)] → W p l e (rmd (4 + d + 1) 0 0) s m args below meth c H locs 0 0 (MQ below (Qg g 194 (PV R L r)) args s 0 0 (gA g)) (F0 m 124 ls []) := by
  have hx := C.1
  have hb := C.2.1
  intro σ x0 x1 x2 x3 x4 x5 x6 h hx0 hx1 H locs ls S hl
  rw [f_X6_place_124] at h
  refine lv_iinc (v := x6 + 1) (lv' := [(6, .int (x6 + 1)), (0, .ref (gb g + x0)), (1, .ref (gb g + x1)), (2, .int x2), (3, .int x3), (4, .int x4), (5, .int x5)]) hx hb dX6_place_124 hl (k := 6) rfl rfl (by decide) rfl (fun ls hl => ?_)
  refine lv_goto (tgt := 54) hx hb dX6_place_127 (by decide) ?_
  exact hk54 σ x0 x1 x2 x3 x4 x5 (x6 + 1) h hx0 hx1 H locs ls S (lv_sub hl [1, 2, 3, 4, 5, 6, 0] rfl)
set_option maxHeartbeats 4000000 in
set_option maxRecDepth 100000 in
theorem w_X6_place_54 {l : Launch} {g : GL} {p : Program} {e : Jvm.Env} {s : State} {m : MethodId} {args : Array Value} {below : List Frame} {meth : Method} {c : Code} {d : Nat} {R : Nat → Nat → Nat} {L : Nat → Nat → Int64} {r : (Unit × SI)} {N : Nat} {kr : SI → Nat → Nat → Int32 → Int32 → Option (Unit × SI)} (C : Cx l g p s m meth c cX6_place 9 RX6) (hr : meth.sig.returnType = none) (hSh : ShR R) (hkr : ∀ (σ : SI) (x0 : Nat) (x1 : Nat) (x2 : Int32) (x3 : Int32) (r : (Unit × SI)), kr σ x0 x1 x2 x3 = some r → Ok 194 x0 6 → Ok 194 x1 9 → Ct l g (4 + d) yX6_place cX6_place 9 none 194 194 0 0 [.ref (gb g + x0), .ref (gb g + x1), .int x2, .int x3] (mkS σ R L) (PV R L r)) : ∀ (n : Nat) (σ : SI) (x0 : Nat) (x1 : Nat) (x2 : Int32) (x3 : Int32) (x4 : Int32) (x5 : Int32) (x6 : Int32), f_X6_place_54 N R kr n σ x0 x1 x2 x3 x4 x5 x6 = some r → Ok 194 x0 6 → Ok 194 x1 9 → ∀ (H : Heap) (locs : List Loc) (ls : Array Slot), S2 g s σ R L H locs → lv_has ls 9 [(0, .ref (gb g + x0)), (1, .ref (gb g + x1)), (2, .int x2), (3, .int x3), (4, .int x4), (5, .int x5), (6, .int x6)] → W p l e (rmd (4 + d + 1) 0 0) s m args below meth c H locs 0 0 (MQ below (Qg g 194 (PV R L r)) args s 0 0 (gA g)) (F0 m 54 ls []) := by
  have hx := C.1
  have hb := C.2.1
  intro n
  induction n with
  | zero =>
    intro σ x0 x1 x2 x3 x4 x5 x6 h
    cases (show (none : Option (Unit × SI)) = some r from h)
  | succ n ih =>
    intro σ x0 x1 x2 x3 x4 x5 x6 h hx0 hx1 H locs ls S hl
    rw [f_X6_place_54] at h
    refine lv_iload hx hb dX6_place_54 (lv_at hl 6 rfl) ?_
    refine lv_iload hx hb dX6_place_56 (lv_at hl 5 rfl) ?_
    refine lv_icmp_ge (tgt := 130) hx hb dX6_place_58 (by decide) (fun c8 => ?_) (fun c8 => ?_)
    · have h := it_p c8 h
      exact x_vret C S hr h dX6_place_130
    · have h := it_n c8 h
      refine lv_aload_n hx hb dX6_place_61 rfl (lv_at hl 1 rfl) ?_
      refine lv_iload hx hb dX6_place_62 (lv_at hl 6 rfl) ?_
      obtain ⟨a9, σ9, hc9, h⟩ := bd_el h
      refine x_callVI C S KX9 hx1 (ok_X9_startAt (L := L) hc9 hSh hx1) ⟨cd_X9_startAt, ni_RX9, ml_RX6_52, in_X9_startAt, sl_X9_startAt⟩ ⟨by decide, by decide⟩ rfl (rm_ok (by omega) (by decide)) hl.1 rfl (Nat.le_of_ble_eq_true rfl) ⟨Nat.le_of_ble_eq_true rfl, Nat.le_of_ble_eq_true rfl⟩ dX6_place_64 (fun H locs S => ?_)
      refine lv_istore (lv' := [(7, .int a9), (0, .ref (gb g + x0)), (1, .ref (gb g + x1)), (2, .int x2), (3, .int x3), (4, .int x4), (5, .int x5), (6, .int x6)]) hx hb dX6_place_67 hl (by decide) rfl (fun ls hl => ?_)
      refine lv_aload_n hx hb dX6_place_69 rfl (lv_at hl 2 rfl) ?_
      refine lv_iload hx hb dX6_place_70 (lv_at hl 5 rfl) ?_
      refine lv_iload hx hb dX6_place_72 (lv_at hl 0 rfl) ?_
      refine lv_aload_n hx hb dX6_place_74 rfl (lv_at hl 1 rfl) ?_
      have hR10 : Ok 194 (R x0 1) 10006 := hSh x0 6 1 10006 hx0.1 rfl
      refine x_getR C S KX6 hx0 1 (by decide) rfl rfl fl_RX6_15 hR10 dX6_place_75 ?_
      obtain ⟨a11, σ11, hc11, h⟩ := bd_el h
      refine x_callVI C S KX9 hx1 (ok_X9_reasonAgainst (L := L) hc11 hSh hx1 hR10) ⟨cd_X9_reasonAgainst, ni_RX9, ml_RX6_56, in_X9_reasonAgainst, sl_X9_reasonAgainst⟩ ⟨by decide, by decide⟩ rfl (rm_ok (by omega) (by decide)) hl.1 rfl (Nat.le_of_ble_eq_true rfl) ⟨Nat.le_of_ble_eq_true rfl, Nat.le_of_ble_eq_true rfl⟩ dX6_place_78 (fun H locs S => ?_)
      refine lv_if_ne (tgt := 124) hx hb dX6_place_81 (by decide) (fun c12 => ?_) (fun c12 => ?_)
      · have h := it_n c12 h
        exact w_X6_place_124 C hr hSh hkr ih σ11 x0 x1 x2 x3 x4 x5 x6 h hx0 hx1 H locs ls S (lv_sub hl [1, 2, 3, 4, 5, 6, 7] rfl)
      · have h := it_p c12 h
        refine lv_iload_n hx hb dX6_place_84 rfl (lv_at hl 4 rfl) ?_
        refine lv_aload_n hx hb dX6_place_85 rfl (lv_at hl 1 rfl) ?_
        refine lv_aload_n hx hb dX6_place_86 rfl (lv_at hl 2 rfl) ?_
        refine lv_iload hx hb dX6_place_87 (lv_at hl 5 rfl) ?_
        refine lv_iload hx hb dX6_place_89 (lv_at hl 0 rfl) ?_
        obtain ⟨a13, σ13, hc13, h⟩ := bd_el h
        refine x_callVI C S KX6 hx0 (ok_X6_newlyClosed (L := L) hc13 hSh hx0 hx1) ⟨cd_X6_newlyClosed, ni_RX6, ml_RX6_60, in_X6_newlyClosed, sl_X6_newlyClosed⟩ ⟨by decide, by decide⟩ rfl (rm_ok (by omega) (by decide)) hl.1 rfl (Nat.le_of_ble_eq_true rfl) ⟨Nat.le_of_ble_eq_true rfl, Nat.le_of_ble_eq_true rfl⟩ dX6_place_91 (fun H locs S => ?_)
        refine lv_iadd hx hb dX6_place_94 ?_
        refine lv_istore (lv' := [(8, .int (x3 + a13)), (7, .int a9), (0, .ref (gb g + x0)), (1, .ref (gb g + x1)), (2, .int x2), (3, .int x3), (4, .int x4), (5, .int x5), (6, .int x6)]) hx hb dX6_place_95 hl (by decide) rfl (fun ls hl => ?_)
        refine lv_aload_n hx hb dX6_place_97 rfl (lv_at hl 2 rfl) ?_
        have hR14 : Ok 194 (R x0 1) 10006 := hSh x0 6 1 10006 hx0.1 rfl
        refine x_getR C S KX6 hx0 1 (by decide) rfl rfl fl_RX6_15 hR14 dX6_place_98 ?_
        refine lv_iload hx hb dX6_place_101 (lv_at hl 6 rfl) ?_
        refine lv_iload hx hb dX6_place_103 (lv_at hl 1 rfl) ?_
        obtain ⟨hi15, h⟩ := ck_el h
        obtain ⟨σ16, hs16, h⟩ := sq_el h
        refine x_iast (len := 6) C S (by decide) hR14 hi15 dX6_place_105 hs16 (fun H locs S => ?_)
        refine lv_aload_n hx hb dX6_place_106 rfl (lv_at hl 2 rfl) ?_
        refine lv_aload_n hx hb dX6_place_107 rfl (lv_at hl 3 rfl) ?_
        refine lv_iload_n hx hb dX6_place_108 rfl (lv_at hl 4 rfl) ?_
        refine lv_iconst (v := (1 : Int32)) hx hb dX6_place_109 (by decide) ?_
        refine lv_iadd hx hb dX6_place_110 ?_
        refine lv_iload hx hb dX6_place_111 (lv_at hl 0 rfl) ?_
        obtain ⟨a17, σ17, hc17, h⟩ := bd_el h
        refine x_callSV C S (hkr σ16 x0 x1 (x2 + (1 : Int32)) (x3 + a13) (a17, σ17) hc17 hx0 hx1) ⟨cd_X6_place, ni_RX6, ml_RX6_40, st_X6_place⟩ ⟨by decide, by decide⟩ rfl (rm_ok (by omega) (by decide)) hl.1 rfl (Nat.le_of_ble_eq_true rfl) ⟨Nat.le_of_ble_eq_true rfl, Nat.le_of_ble_eq_true rfl⟩ dX6_place_113 (fun H locs S => ?_)
        refine lv_aload_n hx hb dX6_place_116 rfl (lv_at hl 2 rfl) ?_
        have hR18 : Ok 194 (R x0 1) 10006 := hSh x0 6 1 10006 hx0.1 rfl
        refine x_getR C S KX6 hx0 1 (by decide) rfl rfl fl_RX6_15 hR18 dX6_place_117 ?_
        refine lv_iload hx hb dX6_place_120 (lv_at hl 6 rfl) ?_
        refine lv_iconst (v := (-1 : Int32)) hx hb dX6_place_122 (by decide) ?_
        obtain ⟨hi19, h⟩ := ck_el h
        obtain ⟨σ20, hs20, h⟩ := sq_el h
        refine x_iast (len := 6) C S (by decide) hR18 hi19 dX6_place_123 hs20 (fun H locs S => ?_)
        exact w_X6_place_124 C hr hSh hkr ih σ20 x0 x1 x2 x3 x4 x5 x6 h hx0 hx1 H locs ls S (lv_sub hl [2, 3, 4, 5, 6, 7, 8] rfl)
set_option maxHeartbeats 4000000 in
set_option maxRecDepth 100000 in
theorem w_X6_place_17 {l : Launch} {g : GL} {p : Program} {e : Jvm.Env} {s : State} {m : MethodId} {args : Array Value} {below : List Frame} {meth : Method} {c : Code} {d : Nat} {R : Nat → Nat → Nat} {L : Nat → Nat → Int64} {r : (Unit × SI)} {N : Nat} {kr : SI → Nat → Nat → Int32 → Int32 → Option (Unit × SI)} (C : Cx l g p s m meth c cX6_place 9 RX6) (hr : meth.sig.returnType = none) (hSh : ShR R) (hkr : ∀ (σ : SI) (x0 : Nat) (x1 : Nat) (x2 : Int32) (x3 : Int32) (r : (Unit × SI)), kr σ x0 x1 x2 x3 = some r → Ok 194 x0 6 → Ok 194 x1 9 → Ct l g (4 + d) yX6_place cX6_place 9 none 194 194 0 0 [.ref (gb g + x0), .ref (gb g + x1), .int x2, .int x3] (mkS σ R L) (PV R L r)) : ∀ (σ : SI) (x0 : Nat) (x1 : Nat) (x2 : Int32) (x3 : Int32), f_X6_place_17 N R kr σ x0 x1 x2 x3 = some r → Ok 194 x0 6 → Ok 194 x1 9 → ∀ (H : Heap) (locs : List Loc) (ls : Array Slot), S2 g s σ R L H locs → lv_has ls 9 [(0, .ref (gb g + x0)), (1, .ref (gb g + x1)), (2, .int x2), (3, .int x3)] → W p l e (rmd (4 + d + 1) 0 0) s m args below meth c H locs 0 0 (MQ below (Qg g 194 (PV R L r)) args s 0 0 (gA g)) (F0 m 17 ls []) := by
  have hx := C.1
  have hb := C.2.1
  intro σ x0 x1 x2 x3 h hx0 hx1 H locs ls S hl
  rw [f_X6_place_17] at h
  refine lv_iload_n hx hb dX6_place_17 rfl (lv_at hl 2 rfl) ?_
  refine lv_aload_n hx hb dX6_place_18 rfl (lv_at hl 0 rfl) ?_
  refine x_getI C S KX6 hx0 3 (by decide) rfl rfl fl_RX6_25 dX6_place_19 ?_
  refine lv_icmp_ge (tgt := 30) hx hb dX6_place_22 (by decide) (fun c2 => ?_) (fun c2 => ?_)
  · have h := it_p c2 h
    exact w_X6_place_30 C hr hSh hkr σ x0 x1 x3 h hx0 hx1 H locs ls S (lv_sub hl [0, 1, 3] rfl)
  · have h := it_n c2 h
    refine lv_iload_n hx hb dX6_place_25 rfl (lv_at hl 2 rfl) ?_
    refine lv_iconst (v := (4 : Int32)) hx hb dX6_place_26 (by decide) ?_
    refine lv_icmp_lt (tgt := 37) hx hb dX6_place_27 (by decide) (fun c4 => ?_) (fun c4 => ?_)
    · have h := it_p c4 h
      refine lv_aload_n hx hb dX6_place_37 rfl (lv_at hl 0 rfl) ?_
      have hR5 : Ok 194 (R x0 0) 10004 := hSh x0 6 0 10004 hx0.1 rfl
      refine x_getR C S KX6 hx0 0 (by decide) rfl rfl fl_RX6_9 hR5 dX6_place_38 ?_
      refine lv_iload_n hx hb dX6_place_41 rfl (lv_at hl 2 rfl) ?_
      obtain ⟨hi6, h⟩ := ck_el h
      refine x_iald (len := 4) C S (by decide) hR5 hi6 dX6_place_42 ?_
      refine lv_istore (lv' := [(4, .int (σ (R x0 0) x2.toNatClampNeg)), (0, .ref (gb g + x0)), (1, .ref (gb g + x1)), (2, .int x2), (3, .int x3)]) hx hb dX6_place_43 hl (by decide) rfl (fun ls hl => ?_)
      refine lv_aload_n hx hb dX6_place_45 rfl (lv_at hl 2 rfl) ?_
      obtain ⟨a7, σ7, hc7, h⟩ := bd_el h
      refine x_callVI C S KX9 hx1 (ok_X9_startTotal (L := L) hc7 hSh hx1) ⟨cd_X9_startTotal, ni_RX9, ml_RX6_48, in_X9_startTotal, sl_X9_startTotal⟩ ⟨by decide, by decide⟩ rfl (rm_ok (by omega) (by decide)) hl.1 rfl (Nat.le_of_ble_eq_true rfl) ⟨Nat.le_of_ble_eq_true rfl, Nat.le_of_ble_eq_true rfl⟩ dX6_place_46 (fun H locs S => ?_)
      refine lv_istore (lv' := [(5, .int a7), (4, .int (σ (R x0 0) x2.toNatClampNeg)), (0, .ref (gb g + x0)), (1, .ref (gb g + x1)), (2, .int x2), (3, .int x3)]) hx hb dX6_place_49 hl (by decide) rfl (fun ls hl => ?_)
      refine lv_iconst (v := (0 : Int32)) hx hb dX6_place_51 (by decide) ?_
      refine lv_istore (lv' := [(6, .int (0 : Int32)), (5, .int a7), (4, .int (σ (R x0 0) x2.toNatClampNeg)), (0, .ref (gb g + x0)), (1, .ref (gb g + x1)), (2, .int x2), (3, .int x3)]) hx hb dX6_place_52 hl (by decide) rfl (fun ls hl => ?_)
      exact w_X6_place_54 C hr hSh hkr N σ7 x0 x1 x2 x3 (σ (R x0 0) x2.toNatClampNeg) a7 (0 : Int32) h hx0 hx1 H locs ls S (lv_sub hl [3, 4, 5, 6, 2, 1, 0] rfl)
    · have h := it_n c4 h
      exact w_X6_place_30 C hr hSh hkr σ x0 x1 x3 h hx0 hx1 H locs ls S (lv_sub hl [0, 1, 3] rfl)
set_option maxHeartbeats 4000000 in
set_option maxRecDepth 100000 in
theorem ok_X6_place {l : Launch} {g : GL} {R : Nat → Nat → Nat} {L : Nat → Nat → Int64} {N : Nat} (d : Nat) : ∀ {σ : SI} {x0 : Nat} {x1 : Nat} {x2 : Int32} {x3 : Int32} {r : (Unit × SI)} (h : f_X6_place N R d σ x0 x1 x2 x3 = some r) (hSh : ShR R) (hx0 : Ok 194 x0 6) (hx1 : Ok 194 x1 9), Ct l g (4 + d) yX6_place cX6_place 9 none 194 194 0 0 [.ref (gb g + x0), .ref (gb g + x1), .int x2, .int x3] (mkS σ R L) (PV R L r) := by
  induction d with
  | zero =>
    intro σ x0 x1 x2 x3 r h
    cases (show (none : Option (Unit × SI)) = some r from h)
  | succ d ihd =>
    intro σ x0 x1 x2 x3 r h hSh hx0 hx1
    have hkr : ∀ (σ : SI) (x0 : Nat) (x1 : Nat) (x2 : Int32) (x3 : Int32) (r : (Unit × SI)), f_X6_place N R d σ x0 x1 x2 x3 = some r → Ok 194 x0 6 → Ok 194 x1 9 → Ct l g (4 + d) yX6_place cX6_place 9 none 194 194 0 0 [.ref (gb g + x0), .ref (gb g + x1), .int x2, .int x3] (mkS σ R L) (PV R L r) := fun σ x0 x1 x2 x3 r h hx0 hx1 => ihd h hSh hx0 hx1
    refine Met.ofW (cc := cX6_place) (maxL := 9) (ret := none) (by decide) rfl ?_
    intro p e s m args below meth c s₁ B hml hv
    obtain ⟨rfl, hE, hLo, hWd⟩ := hv
    have hr : meth.sig.returnType = none := B.returns
    have C : Cx l g p s m meth c cX6_place 9 RX6 := ⟨B.exec, B.bytes, hml, findClass_of_methodNamed B.named, hE, hLo, B.notSynchronized⟩
    have S : S2 g s σ R L s.heap [] := ⟨hWd, va_S.rf⟩
    have hx := C.1
    have hb := C.2.1
    have hl := lv_entry ([.ref (gb g + x0), .ref (gb g + x1), .int x2, .int x3]) (n := 9) (Nat.le_of_ble_eq_true rfl)
    rw [lg_entry_eq]
    generalize (lg_sl ([.ref (gb g + x0), .ref (gb g + x1), .int x2, .int x3]) ++ List.replicate (9 - (lg_sl ([.ref (gb g + x0), .ref (gb g + x1), .int x2, .int x3])).length) Slot.unset).toArray = ls at hl ⊢
    have hl : lv_has ls 9 [(0, .ref (gb g + x0)), (1, .ref (gb g + x1)), (2, .int x2), (3, .int x3)] := hl
    generalize hH : s.heap = H at S ⊢
    generalize hlc : ([] : List Loc) = locs at S ⊢
    rw [f_X6_place] at h
    refine lv_aload_n hx hb dX6_place_0 rfl (lv_at hl 0 rfl) ?_
    refine x_getI C S KX6 hx0 4 (by decide) rfl rfl fl_RX6_37 dX6_place_1 ?_
    refine lv_iconst (v := (-1 : Int32)) hx hb dX6_place_4 (by decide) ?_
    refine lv_icmp_eq (tgt := 17) hx hb dX6_place_5 (by decide) (fun c1 => ?_) (fun c1 => ?_)
    · have h := it_p c1 h
      exact w_X6_place_17 C hr hSh hkr σ x0 x1 x2 x3 h hx0 hx1 H locs ls S (lv_sub hl [0, 1, 2, 3] rfl)
    · have h := it_n c1 h
      refine lv_iload_n hx hb dX6_place_8 rfl (lv_at hl 3 rfl) ?_
      refine lv_aload_n hx hb dX6_place_9 rfl (lv_at hl 0 rfl) ?_
      refine x_getI C S KX6 hx0 4 (by decide) rfl rfl fl_RX6_37 dX6_place_10 ?_
      refine lv_icmp_lt (tgt := 17) hx hb dX6_place_13 (by decide) (fun c21 => ?_) (fun c21 => ?_)
      · have h := it_p c21 h
        exact w_X6_place_17 C hr hSh hkr σ x0 x1 x2 x3 h hx0 hx1 H locs ls S (lv_sub hl [0, 1, 2, 3] rfl)
      · have h := it_n c21 h
        exact x_vret C S hr h dX6_place_16
theorem dX5_parseLine_0 : decode cX5_parseLine 0 = .ok (.aload_n 0, 1) := by decide +kernel
theorem dX5_parseLine_1 : decode cX5_parseLine 1 = .ok (.getfield 12, 3) := by decide +kernel
theorem dX5_parseLine_4 : decode cX5_parseLine 4 = .ok (.getfield 44, 3) := by decide +kernel
theorem dX5_parseLine_7 : decode cX5_parseLine 7 = .ok (.istore_n 2, 1) := by decide +kernel
theorem dX5_parseLine_8 : decode cX5_parseLine 8 = .ok (.aload_n 0, 1) := by decide +kernel
theorem dX5_parseLine_9 : decode cX5_parseLine 9 = .ok (.getfield 12, 3) := by decide +kernel
theorem dX5_parseLine_12 : decode cX5_parseLine 12 = .ok (.ldc 48, 2) := by decide +kernel
theorem dX5_parseLine_14 : decode cX5_parseLine 14 = .ok (.invokevirtual 50, 3) := by decide +kernel
theorem dX5_parseLine_17 : decode cX5_parseLine 17 = .ok (.ifCond .eq 12, 3) := by decide +kernel
theorem dX5_parseLine_20 : decode cX5_parseLine 20 = .ok (.aload_n 0, 1) := by decide +kernel
theorem dX5_parseLine_21 : decode cX5_parseLine 21 = .ok (.aload_n 1, 1) := by decide +kernel
theorem dX5_parseLine_22 : decode cX5_parseLine 22 = .ok (.iload_n 2, 1) := by decide +kernel
theorem dX5_parseLine_23 : decode cX5_parseLine 23 = .ok (.invokevirtual 54, 3) := by decide +kernel
theorem dX5_parseLine_26 : decode cX5_parseLine 26 = .ok (.goto 50, 3) := by decide +kernel
theorem dX5_parseLine_29 : decode cX5_parseLine 29 = .ok (.aload_n 0, 1) := by decide +kernel
theorem dX5_parseLine_30 : decode cX5_parseLine 30 = .ok (.getfield 12, 3) := by decide +kernel
theorem dX5_parseLine_33 : decode cX5_parseLine 33 = .ok (.ldc 58, 2) := by decide +kernel
theorem dX5_parseLine_35 : decode cX5_parseLine 35 = .ok (.invokevirtual 50, 3) := by decide +kernel
theorem dX5_parseLine_38 : decode cX5_parseLine 38 = .ok (.ifCond .eq 12, 3) := by decide +kernel
theorem dX5_parseLine_41 : decode cX5_parseLine 41 = .ok (.aload_n 0, 1) := by decide +kernel
theorem dX5_parseLine_42 : decode cX5_parseLine 42 = .ok (.aload_n 1, 1) := by decide +kernel
theorem dX5_parseLine_43 : decode cX5_parseLine 43 = .ok (.iload_n 2, 1) := by decide +kernel
theorem dX5_parseLine_44 : decode cX5_parseLine 44 = .ok (.invokevirtual 60, 3) := by decide +kernel
theorem dX5_parseLine_47 : decode cX5_parseLine 47 = .ok (.goto 29, 3) := by decide +kernel
theorem dX5_parseLine_50 : decode cX5_parseLine 50 = .ok (.aload_n 0, 1) := by decide +kernel
theorem dX5_parseLine_51 : decode cX5_parseLine 51 = .ok (.getfield 12, 3) := by decide +kernel
theorem dX5_parseLine_54 : decode cX5_parseLine 54 = .ok (.ldc 63, 2) := by decide +kernel
theorem dX5_parseLine_56 : decode cX5_parseLine 56 = .ok (.invokevirtual 50, 3) := by decide +kernel
theorem dX5_parseLine_59 : decode cX5_parseLine 59 = .ok (.ifCond .eq 12, 3) := by decide +kernel
theorem dX5_parseLine_62 : decode cX5_parseLine 62 = .ok (.aload_n 0, 1) := by decide +kernel
theorem dX5_parseLine_63 : decode cX5_parseLine 63 = .ok (.aload_n 1, 1) := by decide +kernel
theorem dX5_parseLine_64 : decode cX5_parseLine 64 = .ok (.iload_n 2, 1) := by decide +kernel
theorem dX5_parseLine_65 : decode cX5_parseLine 65 = .ok (.invokevirtual 65, 3) := by decide +kernel
theorem dX5_parseLine_68 : decode cX5_parseLine 68 = .ok (.goto 8, 3) := by decide +kernel
theorem dX5_parseLine_71 : decode cX5_parseLine 71 = .ok (.aload_n 0, 1) := by decide +kernel
theorem dX5_parseLine_72 : decode cX5_parseLine 72 = .ok (.aload_n 1, 1) := by decide +kernel
theorem dX5_parseLine_73 : decode cX5_parseLine 73 = .ok (.invokevirtual 68, 3) := by decide +kernel
theorem dX5_parseLine_76 : decode cX5_parseLine 76 = .ok (.return_, 1) := by decide +kernel
def f_X5_parseLine (N : Nat) (R : Nat → Nat → Nat) (σ : SI) (x0 : Nat) (x1 : Nat) : Option (Unit × SI) := bd (f_X10_tookWord N R σ (R x0 0) 0) (fun a3 σ3 => if a3 = 0 then (bd (f_X10_tookWord N R σ3 (R x0 0) 2) (fun a6 σ6 => if a6 = 0 then (bd (f_X10_tookWord N R σ6 (R x0 0) 3) (fun a9 σ9 => if a9 = 0 then (bd (f_X5_parseSetting N R σ9 x0 x1) (fun _ σ11 => some ((), σ11))) else (bd (f_X5_parseBlast N R σ9 x0 x1 (σ (R x0 0) 2)) (fun _ σ12 => some ((), σ12))))) else (bd (f_X5_parseRoad N R σ6 x0 x1 (σ (R x0 0) 2)) (fun _ σ13 => some ((), σ13))))) else (bd (f_X5_parseNeighbour N R σ3 x0 x1 (σ (R x0 0) 2)) (fun _ σ14 => some ((), σ14))))
set_option maxHeartbeats 4000000 in
set_option maxRecDepth 100000 in
theorem ok_X5_parseLine {l : Launch} {g : GL} {R : Nat → Nat → Nat} {L : Nat → Nat → Int64} {N : Nat} {σ : SI} {x0 : Nat} {x1 : Nat} {r : (Unit × SI)} (h : f_X5_parseLine N R σ x0 x1 = some r) (hSh : ShR R) (hx0 : Ok 194 x0 5) (hx1 : Ok 194 x1 9) : Ct l g 8 yX5_parseLine cX5_parseLine 3 none 194 194 0 0 [.ref (gb g + x0), .ref (gb g + x1)] (mkS σ R L) (PV R L r) := by
  refine Met.ofW (cc := cX5_parseLine) (maxL := 3) (ret := none) (by decide) rfl ?_
  intro p e s m args below meth c s₁ B hml hv
  obtain ⟨rfl, hE, hLo, hWd⟩ := hv
  have hr : meth.sig.returnType = none := B.returns
  have C : Cx l g p s m meth c cX5_parseLine 3 RX5 := ⟨B.exec, B.bytes, hml, findClass_of_methodNamed B.named, hE, hLo, B.notSynchronized⟩
  have S : S2 g s σ R L s.heap [] := ⟨hWd, va_S.rf⟩
  have hx := C.1
  have hb := C.2.1
  have hl := lv_entry ([.ref (gb g + x0), .ref (gb g + x1)]) (n := 3) (Nat.le_of_ble_eq_true rfl)
  rw [lg_entry_eq]
  generalize (lg_sl ([.ref (gb g + x0), .ref (gb g + x1)]) ++ List.replicate (3 - (lg_sl ([.ref (gb g + x0), .ref (gb g + x1)])).length) Slot.unset).toArray = ls at hl ⊢
  have hl : lv_has ls 3 [(0, .ref (gb g + x0)), (1, .ref (gb g + x1))] := hl
  generalize hH : s.heap = H at S ⊢
  generalize hlc : ([] : List Loc) = locs at S ⊢
  rw [f_X5_parseLine] at h
  refine lv_aload_n hx hb dX5_parseLine_0 rfl (lv_at hl 0 rfl) ?_
  have hR1 : Ok 194 (R x0 0) 10 := hSh x0 5 0 10 hx0.1 rfl
  refine x_getR C S KX5 hx0 0 (by decide) rfl rfl fl_RX5_12 hR1 dX5_parseLine_1 ?_
  refine x_getI C S KX10 hR1 2 (by decide) rfl rfl fl_RX5_44 dX5_parseLine_4 ?_
  refine lv_istore_n (lv' := [(2, .int (σ (R x0 0) 2)), (0, .ref (gb g + x0)), (1, .ref (gb g + x1))]) hx hb dX5_parseLine_7 rfl hl (by decide) rfl (fun ls hl => ?_)
  refine lv_aload_n hx hb dX5_parseLine_8 rfl (lv_at hl 1 rfl) ?_
  have hR2 : Ok 194 (R x0 0) 10 := hSh x0 5 0 10 hx0.1 rfl
  refine x_getR C S KX5 hx0 0 (by decide) rfl rfl fl_RX5_12 hR2 dX5_parseLine_9 ?_
  refine x_ldcs C (k := 48) (tx := "near") (ia := 0) (by decide) dX5_parseLine_12 ?_
  obtain ⟨a3, σ3, hc3, h⟩ := bd_el h
  refine x_callVI C S KX10 hR2 (ok_X10_tookWord (L := L) hc3 hSh hR2 (by decide)) ⟨cd_X10_tookWord, ni_RX10, ml_RX5_50, in_X10_tookWord, sl_X10_tookWord⟩ ⟨by decide, by decide⟩ rfl (rm_ok (by decide) (by decide)) hl.1 rfl (Nat.le_of_ble_eq_true rfl) ⟨by decide, by decide⟩ dX5_parseLine_14 (fun H locs S => ?_)
  refine lv_if_eq (tgt := 29) hx hb dX5_parseLine_17 (by decide) (fun c4 => ?_) (fun c4 => ?_)
  · have h := it_p c4 h
    refine lv_aload_n hx hb dX5_parseLine_29 rfl (lv_at hl 1 rfl) ?_
    have hR5 : Ok 194 (R x0 0) 10 := hSh x0 5 0 10 hx0.1 rfl
    refine x_getR C S KX5 hx0 0 (by decide) rfl rfl fl_RX5_12 hR5 dX5_parseLine_30 ?_
    refine x_ldcs C (k := 58) (tx := "road") (ia := 2) (by decide) dX5_parseLine_33 ?_
    obtain ⟨a6, σ6, hc6, h⟩ := bd_el h
    refine x_callVI C S KX10 hR5 (ok_X10_tookWord (L := L) hc6 hSh hR5 (by decide)) ⟨cd_X10_tookWord, ni_RX10, ml_RX5_50, in_X10_tookWord, sl_X10_tookWord⟩ ⟨by decide, by decide⟩ rfl (rm_ok (by decide) (by decide)) hl.1 rfl (Nat.le_of_ble_eq_true rfl) ⟨by decide, by decide⟩ dX5_parseLine_35 (fun H locs S => ?_)
    refine lv_if_eq (tgt := 50) hx hb dX5_parseLine_38 (by decide) (fun c7 => ?_) (fun c7 => ?_)
    · have h := it_p c7 h
      refine lv_aload_n hx hb dX5_parseLine_50 rfl (lv_at hl 1 rfl) ?_
      have hR8 : Ok 194 (R x0 0) 10 := hSh x0 5 0 10 hx0.1 rfl
      refine x_getR C S KX5 hx0 0 (by decide) rfl rfl fl_RX5_12 hR8 dX5_parseLine_51 ?_
      refine x_ldcs C (k := 63) (tx := "blast") (ia := 3) (by decide) dX5_parseLine_54 ?_
      obtain ⟨a9, σ9, hc9, h⟩ := bd_el h
      refine x_callVI C S KX10 hR8 (ok_X10_tookWord (L := L) hc9 hSh hR8 (by decide)) ⟨cd_X10_tookWord, ni_RX10, ml_RX5_50, in_X10_tookWord, sl_X10_tookWord⟩ ⟨by decide, by decide⟩ rfl (rm_ok (by decide) (by decide)) hl.1 rfl (Nat.le_of_ble_eq_true rfl) ⟨by decide, by decide⟩ dX5_parseLine_56 (fun H locs S => ?_)
      refine lv_if_eq (tgt := 71) hx hb dX5_parseLine_59 (by decide) (fun c10 => ?_) (fun c10 => ?_)
      · have h := it_p c10 h
        refine lv_aload_n hx hb dX5_parseLine_71 rfl (lv_at hl 1 rfl) ?_
        refine lv_aload_n hx hb dX5_parseLine_72 rfl (lv_at hl 2 rfl) ?_
        obtain ⟨a11, σ11, hc11, h⟩ := bd_el h
        refine x_callVV C S KX5 hx0 (ok_X5_parseSetting (L := L) hc11 hSh hx0 hx1) ⟨cd_X5_parseSetting, ni_RX5, ml_RX5_68, in_X5_parseSetting, sl_X5_parseSetting⟩ ⟨by decide, by decide⟩ rfl (rm_ok (by decide) (by decide)) hl.1 rfl (Nat.le_of_ble_eq_true rfl) ⟨by decide, by decide⟩ dX5_parseLine_73 (fun H locs S => ?_)
        exact x_vret C S hr h dX5_parseLine_76
      · have h := it_n c10 h
        refine lv_aload_n hx hb dX5_parseLine_62 rfl (lv_at hl 1 rfl) ?_
        refine lv_aload_n hx hb dX5_parseLine_63 rfl (lv_at hl 2 rfl) ?_
        refine lv_iload_n hx hb dX5_parseLine_64 rfl (lv_at hl 0 rfl) ?_
        obtain ⟨a12, σ12, hc12, h⟩ := bd_el h
        refine x_callVV C S KX5 hx0 (ok_X5_parseBlast (L := L) hc12 hSh hx0 hx1) ⟨cd_X5_parseBlast, ni_RX5, ml_RX5_65, in_X5_parseBlast, sl_X5_parseBlast⟩ ⟨by decide, by decide⟩ rfl (rm_ok (by decide) (by decide)) hl.1 rfl (Nat.le_of_ble_eq_true rfl) ⟨by decide, by decide⟩ dX5_parseLine_65 (fun H locs S => ?_)
        refine lv_goto (tgt := 76) hx hb dX5_parseLine_68 (by decide) ?_
        exact x_vret C S hr h dX5_parseLine_76
    · have h := it_n c7 h
      refine lv_aload_n hx hb dX5_parseLine_41 rfl (lv_at hl 1 rfl) ?_
      refine lv_aload_n hx hb dX5_parseLine_42 rfl (lv_at hl 2 rfl) ?_
      refine lv_iload_n hx hb dX5_parseLine_43 rfl (lv_at hl 0 rfl) ?_
      obtain ⟨a13, σ13, hc13, h⟩ := bd_el h
      refine x_callVV C S KX5 hx0 (ok_X5_parseRoad (L := L) hc13 hSh hx0 hx1) ⟨cd_X5_parseRoad, ni_RX5, ml_RX5_60, in_X5_parseRoad, sl_X5_parseRoad⟩ ⟨by decide, by decide⟩ rfl (rm_ok (by decide) (by decide)) hl.1 rfl (Nat.le_of_ble_eq_true rfl) ⟨by decide, by decide⟩ dX5_parseLine_44 (fun H locs S => ?_)
      refine lv_goto (tgt := 76) hx hb dX5_parseLine_47 (by decide) ?_
      exact x_vret C S hr h dX5_parseLine_76
  · have h := it_n c4 h
    refine lv_aload_n hx hb dX5_parseLine_20 rfl (lv_at hl 1 rfl) ?_
    refine lv_aload_n hx hb dX5_parseLine_21 rfl (lv_at hl 2 rfl) ?_
    refine lv_iload_n hx hb dX5_parseLine_22 rfl (lv_at hl 0 rfl) ?_
    obtain ⟨a14, σ14, hc14, h⟩ := bd_el h
    refine x_callVV C S KX5 hx0 (ok_X5_parseNeighbour (L := L) hc14 hSh hx0 hx1) ⟨cd_X5_parseNeighbour, ni_RX5, ml_RX5_54, in_X5_parseNeighbour, sl_X5_parseNeighbour⟩ ⟨by decide, by decide⟩ rfl (rm_ok (by decide) (by decide)) hl.1 rfl (Nat.le_of_ble_eq_true rfl) ⟨by decide, by decide⟩ dX5_parseLine_23 (fun H locs S => ?_)
    refine lv_goto (tgt := 76) hx hb dX5_parseLine_26 (by decide) ?_
    exact x_vret C S hr h dX5_parseLine_76
theorem dX6_search_0 : decode cX6_search 0 = .ok (.aload_n 0, 1) := by decide +kernel
theorem dX6_search_1 : decode cX6_search 1 = .ok (.iconst 0, 1) := by decide +kernel
theorem dX6_search_2 : decode cX6_search 2 = .ok (.putfield 25, 3) := by decide +kernel
theorem dX6_search_5 : decode cX6_search 5 = .ok (.iconst 0, 1) := by decide +kernel
theorem dX6_search_6 : decode cX6_search 6 = .ok (.istore_n 3, 1) := by decide +kernel
theorem dX6_search_7 : decode cX6_search 7 = .ok (.iload_n 3, 1) := by decide +kernel
theorem dX6_search_8 : decode cX6_search 8 = .ok (.aload_n 1, 1) := by decide +kernel
theorem dX6_search_9 : decode cX6_search 9 = .ok (.getfield 29, 3) := by decide +kernel
theorem dX6_search_12 : decode cX6_search 12 = .ok (.if_icmp .ge 71, 3) := by decide +kernel
theorem dX6_search_15 : decode cX6_search 15 = .ok (.aload_n 0, 1) := by decide +kernel
theorem dX6_search_16 : decode cX6_search 16 = .ok (.getfield 15, 3) := by decide +kernel
theorem dX6_search_19 : decode cX6_search 19 = .ok (.iload_n 3, 1) := by decide +kernel
theorem dX6_search_20 : decode cX6_search 20 = .ok (.aload_n 1, 1) := by decide +kernel
theorem dX6_search_21 : decode cX6_search 21 = .ok (.getfield 34, 3) := by decide +kernel
theorem dX6_search_24 : decode cX6_search 24 = .ok (.iload_n 3, 1) := by decide +kernel
theorem dX6_search_25 : decode cX6_search 25 = .ok (.iaload, 1) := by decide +kernel
theorem dX6_search_26 : decode cX6_search 26 = .ok (.iastore, 1) := by decide +kernel
theorem dX6_search_27 : decode cX6_search 27 = .ok (.aload_n 0, 1) := by decide +kernel
theorem dX6_search_28 : decode cX6_search 28 = .ok (.getfield 18, 3) := by decide +kernel
theorem dX6_search_31 : decode cX6_search 31 = .ok (.iload_n 3, 1) := by decide +kernel
theorem dX6_search_32 : decode cX6_search 32 = .ok (.aload_n 1, 1) := by decide +kernel
theorem dX6_search_33 : decode cX6_search 33 = .ok (.getfield 34, 3) := by decide +kernel
theorem dX6_search_36 : decode cX6_search 36 = .ok (.iload_n 3, 1) := by decide +kernel
theorem dX6_search_37 : decode cX6_search 37 = .ok (.iaload, 1) := by decide +kernel
theorem dX6_search_38 : decode cX6_search 38 = .ok (.iastore, 1) := by decide +kernel
theorem dX6_search_39 : decode cX6_search 39 = .ok (.aload_n 0, 1) := by decide +kernel
theorem dX6_search_40 : decode cX6_search 40 = .ok (.getfield 15, 3) := by decide +kernel
theorem dX6_search_43 : decode cX6_search 43 = .ok (.iload_n 3, 1) := by decide +kernel
theorem dX6_search_44 : decode cX6_search 44 = .ok (.iaload, 1) := by decide +kernel
theorem dX6_search_45 : decode cX6_search 45 = .ok (.iconst (-1), 1) := by decide +kernel
theorem dX6_search_46 : decode cX6_search 46 = .ok (.if_icmp .ne 31, 3) := by decide +kernel
theorem dX6_search_49 : decode cX6_search 49 = .ok (.aload_n 0, 1) := by decide +kernel
theorem dX6_search_50 : decode cX6_search 50 = .ok (.getfield 25, 3) := by decide +kernel
theorem dX6_search_53 : decode cX6_search 53 = .ok (.iconst 4, 1) := by decide +kernel
theorem dX6_search_54 : decode cX6_search 54 = .ok (.if_icmp .ge 23, 3) := by decide +kernel
theorem dX6_search_57 : decode cX6_search 57 = .ok (.aload_n 0, 1) := by decide +kernel
theorem dX6_search_58 : decode cX6_search 58 = .ok (.getfield 9, 3) := by decide +kernel
theorem dX6_search_61 : decode cX6_search 61 = .ok (.aload_n 0, 1) := by decide +kernel
theorem dX6_search_62 : decode cX6_search 62 = .ok (.getfield 25, 3) := by decide +kernel
theorem dX6_search_65 : decode cX6_search 65 = .ok (.iload_n 3, 1) := by decide +kernel
theorem dX6_search_66 : decode cX6_search 66 = .ok (.iastore, 1) := by decide +kernel
theorem dX6_search_67 : decode cX6_search 67 = .ok (.aload_n 0, 1) := by decide +kernel
theorem dX6_search_68 : decode cX6_search 68 = .ok (.dup, 1) := by decide +kernel
theorem dX6_search_69 : decode cX6_search 69 = .ok (.getfield 25, 3) := by decide +kernel
theorem dX6_search_72 : decode cX6_search 72 = .ok (.iconst 1, 1) := by decide +kernel
theorem dX6_search_73 : decode cX6_search 73 = .ok (.iadd, 1) := by decide +kernel
theorem dX6_search_74 : decode cX6_search 74 = .ok (.putfield 25, 3) := by decide +kernel
theorem dX6_search_77 : decode cX6_search 77 = .ok (.iinc 3 1, 3) := by decide +kernel
theorem dX6_search_80 : decode cX6_search 80 = .ok (.goto (-73), 3) := by decide +kernel
theorem dX6_search_83 : decode cX6_search 83 = .ok (.aload_n 0, 1) := by decide +kernel
theorem dX6_search_84 : decode cX6_search 84 = .ok (.iconst (-1), 1) := by decide +kernel
theorem dX6_search_85 : decode cX6_search 85 = .ok (.putfield 37, 3) := by decide +kernel
theorem dX6_search_88 : decode cX6_search 88 = .ok (.aload_n 0, 1) := by decide +kernel
theorem dX6_search_89 : decode cX6_search 89 = .ok (.aload_n 1, 1) := by decide +kernel
theorem dX6_search_90 : decode cX6_search 90 = .ok (.iconst 0, 1) := by decide +kernel
theorem dX6_search_91 : decode cX6_search 91 = .ok (.iload_n 2, 1) := by decide +kernel
theorem dX6_search_92 : decode cX6_search 92 = .ok (.invokestatic 40, 3) := by decide +kernel
theorem dX6_search_95 : decode cX6_search 95 = .ok (.aload_n 0, 1) := by decide +kernel
theorem dX6_search_96 : decode cX6_search 96 = .ok (.iconst 1, 1) := by decide +kernel
theorem dX6_search_97 : decode cX6_search 97 = .ok (.putfield 21, 3) := by decide +kernel
theorem dX6_search_100 : decode cX6_search 100 = .ok (.return_, 1) := by decide +kernel
def f_X6_search_77 (N : Nat) (R : Nat → Nat → Nat) (k7 : SI → Nat → Nat → Int32 → Int32 → Option (Unit × SI)) (σ : SI) (x0 : Nat) (x1 : Nat) (x2 : Int32) (x3 : Int32) : Option (Unit × SI) := k7 σ x0 x1 x2 (x3 + 1)
def f_X6_search_7 (N : Nat) (R : Nat → Nat → Nat) : Nat → SI → Nat → Nat → Int32 → Int32 → Option (Unit × SI)
  | 0, _, _, _, _, _ => none
  | n + 1, σ, x0, x1, x2, x3 => if (σ x1 11) ≤ x3 then (sq (up σ x0 4 (-1 : Int32)) (fun σ3 => bd (f_X6_place N R 12 σ3 x0 x1 (0 : Int32) x2) (fun _ σ4 => sq (up σ4 x0 5 (1 : Int32)) (fun σ5 => some ((), σ5))))) else (ck x3 6 (ck x3 6 (sq (up σ (R x0 1) x3.toNatClampNeg (σ (R x1 6) x3.toNatClampNeg)) (fun σ10 => ck x3 6 (ck x3 6 (sq (up σ10 (R x0 2) x3.toNatClampNeg (σ10 (R x1 6) x3.toNatClampNeg)) (fun σ15 => ck x3 6 (if (σ15 (R x0 1) x3.toNatClampNeg) = (-1 : Int32) then (if (4 : Int32) ≤ (σ15 x0 3) then (f_X6_search_77 N R (fun σ x0 x1 x2 x3 => f_X6_search_7 N R n σ x0 x1 x2 x3) σ15 x0 x1 x2 x3) else (ck (σ15 x0 3) 4 (sq (up σ15 (R x0 0) (σ15 x0 3).toNatClampNeg x3) (fun σ22 => sq (up σ22 x0 3 ((σ22 x0 3) + (1 : Int32))) (fun σ23 => f_X6_search_77 N R (fun σ x0 x1 x2 x3 => f_X6_search_7 N R n σ x0 x1 x2 x3) σ23 x0 x1 x2 x3))))) else (f_X6_search_77 N R (fun σ x0 x1 x2 x3 => f_X6_search_7 N R n σ x0 x1 x2 x3) σ15 x0 x1 x2 x3)))))))))
def f_X6_search (N : Nat) (R : Nat → Nat → Nat) (σ : SI) (x0 : Nat) (x1 : Nat) (x2 : Int32) : Option (Unit × SI) := sq (up σ x0 3 (0 : Int32)) (fun σ1 => f_X6_search_7 N R N σ1 x0 x1 x2 (0 : Int32))
set_option maxHeartbeats 4000000 in
set_option maxRecDepth 100000 in
theorem w_X6_search_77 {l : Launch} {g : GL} {p : Program} {e : Jvm.Env} {s : State} {m : MethodId} {args : Array Value} {below : List Frame} {meth : Method} {c : Code} {R : Nat → Nat → Nat} {L : Nat → Nat → Int64} {r : (Unit × SI)} {N : Nat} {k7 : SI → Nat → Nat → Int32 → Int32 → Option (Unit × SI)} (C : Cx l g p s m meth c cX6_search 4 RX6) (hr : meth.sig.returnType = none) (hSh : ShR R) (hk7 : ∀ (σ : SI) (x0 : Nat) (x1 : Nat) (x2 : Int32) (x3 : Int32), k7 σ x0 x1 x2 x3 = some r → Ok 194 x0 6 → Ok 194 x1 9 → ∀ (H : Heap) (locs : List Loc) (ls : Array Slot), S2 g s σ R L H locs → lv_has ls 4 [(0, .ref (gb g + x0)), (1, .ref (gb g + x1)), (2, .int x2), (3, .int x3)] → W p l e (rmd 17 0 0) s m args below meth c H locs 0 0 (MQ below (Qg g 194 (PV R L r)) args s 0 0 (gA g)) (F0 m 7 ls [])) : ∀ (σ : SI) (x0 : Nat) (x1 : Nat) (x2 : Int32) (x3 : Int32), f_X6_search_77 N R k7 σ x0 x1 x2 x3 = some r → Ok 194 x0 6 → Ok 194 x1 9 → ∀ (H : Heap) (locs : List Loc) (ls : Array Slot), S2 g s σ R L H locs → lv_has ls 4 [(0, .ref (gb g + x0)), (1, .ref (gb g + x1)), (2, .int x2), (3, .int x3)] → W p l e (rmd 17 0 0) s m args below meth c H locs 0 0 (MQ below (Qg g 194 (PV R L r)) args s 0 0 (gA g)) (F0 m 77 ls []) := by
  have hx := C.1
  have hb := C.2.1
  intro σ x0 x1 x2 x3 h hx0 hx1 H locs ls S hl
  rw [f_X6_search_77] at h
  refine lv_iinc (v := x3 + 1) (lv' := [(3, .int (x3 + 1)), (0, .ref (gb g + x0)), (1, .ref (gb g + x1)), (2, .int x2)]) hx hb dX6_search_77 hl (k := 3) rfl rfl (by decide) rfl (fun ls hl => ?_)
  refine lv_goto (tgt := 7) hx hb dX6_search_80 (by decide) ?_
  exact hk7 σ x0 x1 x2 (x3 + 1) h hx0 hx1 H locs ls S (lv_sub hl [1, 2, 3, 0] rfl)
set_option maxHeartbeats 4000000 in
set_option maxRecDepth 100000 in
theorem w_X6_search_7 {l : Launch} {g : GL} {p : Program} {e : Jvm.Env} {s : State} {m : MethodId} {args : Array Value} {below : List Frame} {meth : Method} {c : Code} {R : Nat → Nat → Nat} {L : Nat → Nat → Int64} {r : (Unit × SI)} {N : Nat} (C : Cx l g p s m meth c cX6_search 4 RX6) (hr : meth.sig.returnType = none) (hSh : ShR R) : ∀ (n : Nat) (σ : SI) (x0 : Nat) (x1 : Nat) (x2 : Int32) (x3 : Int32), f_X6_search_7 N R n σ x0 x1 x2 x3 = some r → Ok 194 x0 6 → Ok 194 x1 9 → ∀ (H : Heap) (locs : List Loc) (ls : Array Slot), S2 g s σ R L H locs → lv_has ls 4 [(0, .ref (gb g + x0)), (1, .ref (gb g + x1)), (2, .int x2), (3, .int x3)] → W p l e (rmd 17 0 0) s m args below meth c H locs 0 0 (MQ below (Qg g 194 (PV R L r)) args s 0 0 (gA g)) (F0 m 7 ls []) := by
  have hx := C.1
  have hb := C.2.1
  intro n
  induction n with
  | zero =>
    intro σ x0 x1 x2 x3 h
    cases (show (none : Option (Unit × SI)) = some r from h)
  | succ n ih =>
    intro σ x0 x1 x2 x3 h hx0 hx1 H locs ls S hl
    rw [f_X6_search_7] at h
    refine lv_iload_n hx hb dX6_search_7 rfl (lv_at hl 3 rfl) ?_
    refine lv_aload_n hx hb dX6_search_8 rfl (lv_at hl 1 rfl) ?_
    refine x_getI C S KX9 hx1 11 (by decide) rfl rfl fl_RX6_29 dX6_search_9 ?_
    refine lv_icmp_ge (tgt := 83) hx hb dX6_search_12 (by decide) (fun c2 => ?_) (fun c2 => ?_)
    · have h := it_p c2 h
      refine lv_aload_n hx hb dX6_search_83 rfl (lv_at hl 0 rfl) ?_
      refine lv_iconst (v := (-1 : Int32)) hx hb dX6_search_84 (by decide) ?_
      obtain ⟨σ3, hs3, h⟩ := sq_el h
      refine x_putI C S KX6 hx0 4 (by decide) rfl rfl rfl ⟨rfl, rfl⟩ fl_RX6_37 dX6_search_85 hs3 (fun H locs S => ?_)
      refine lv_aload_n hx hb dX6_search_88 rfl (lv_at hl 0 rfl) ?_
      refine lv_aload_n hx hb dX6_search_89 rfl (lv_at hl 1 rfl) ?_
      refine lv_iconst (v := (0 : Int32)) hx hb dX6_search_90 (by decide) ?_
      refine lv_iload_n hx hb dX6_search_91 rfl (lv_at hl 2 rfl) ?_
      obtain ⟨a4, σ4, hc4, h⟩ := bd_el h
      refine x_callSV C S (ok_X6_place (L := L) 12 hc4 hSh hx0 hx1) ⟨cd_X6_place, ni_RX6, ml_RX6_40, st_X6_place⟩ ⟨by decide, by decide⟩ rfl (rm_ok (by decide) (by decide)) hl.1 rfl (Nat.le_of_ble_eq_true rfl) ⟨by decide, by decide⟩ dX6_search_92 (fun H locs S => ?_)
      refine lv_aload_n hx hb dX6_search_95 rfl (lv_at hl 0 rfl) ?_
      refine lv_iconst (v := (1 : Int32)) hx hb dX6_search_96 (by decide) ?_
      obtain ⟨σ5, hs5, h⟩ := sq_el h
      refine x_putI C S KX6 hx0 5 (by decide) rfl rfl rfl ⟨rfl, rfl⟩ fl_RX6_21 dX6_search_97 hs5 (fun H locs S => ?_)
      exact x_vret C S hr h dX6_search_100
    · have h := it_n c2 h
      refine lv_aload_n hx hb dX6_search_15 rfl (lv_at hl 0 rfl) ?_
      have hR6 : Ok 194 (R x0 1) 10006 := hSh x0 6 1 10006 hx0.1 rfl
      refine x_getR C S KX6 hx0 1 (by decide) rfl rfl fl_RX6_15 hR6 dX6_search_16 ?_
      refine lv_iload_n hx hb dX6_search_19 rfl (lv_at hl 3 rfl) ?_
      refine lv_aload_n hx hb dX6_search_20 rfl (lv_at hl 1 rfl) ?_
      have hR7 : Ok 194 (R x1 6) 10006 := hSh x1 9 6 10006 hx1.1 rfl
      refine x_getR C S KX9 hx1 6 (by decide) rfl rfl fl_RX6_34 hR7 dX6_search_21 ?_
      refine lv_iload_n hx hb dX6_search_24 rfl (lv_at hl 3 rfl) ?_
      obtain ⟨hi8, h⟩ := ck_el h
      refine x_iald (len := 6) C S (by decide) hR7 hi8 dX6_search_25 ?_
      obtain ⟨hi9, h⟩ := ck_el h
      obtain ⟨σ10, hs10, h⟩ := sq_el h
      refine x_iast (len := 6) C S (by decide) hR6 hi9 dX6_search_26 hs10 (fun H locs S => ?_)
      refine lv_aload_n hx hb dX6_search_27 rfl (lv_at hl 0 rfl) ?_
      have hR11 : Ok 194 (R x0 2) 10006 := hSh x0 6 2 10006 hx0.1 rfl
      refine x_getR C S KX6 hx0 2 (by decide) rfl rfl fl_RX6_18 hR11 dX6_search_28 ?_
      refine lv_iload_n hx hb dX6_search_31 rfl (lv_at hl 3 rfl) ?_
      refine lv_aload_n hx hb dX6_search_32 rfl (lv_at hl 1 rfl) ?_
      have hR12 : Ok 194 (R x1 6) 10006 := hSh x1 9 6 10006 hx1.1 rfl
      refine x_getR C S KX9 hx1 6 (by decide) rfl rfl fl_RX6_34 hR12 dX6_search_33 ?_
      refine lv_iload_n hx hb dX6_search_36 rfl (lv_at hl 3 rfl) ?_
      obtain ⟨hi13, h⟩ := ck_el h
      refine x_iald (len := 6) C S (by decide) hR12 hi13 dX6_search_37 ?_
      obtain ⟨hi14, h⟩ := ck_el h
      obtain ⟨σ15, hs15, h⟩ := sq_el h
      refine x_iast (len := 6) C S (by decide) hR11 hi14 dX6_search_38 hs15 (fun H locs S => ?_)
      refine lv_aload_n hx hb dX6_search_39 rfl (lv_at hl 0 rfl) ?_
      have hR16 : Ok 194 (R x0 1) 10006 := hSh x0 6 1 10006 hx0.1 rfl
      refine x_getR C S KX6 hx0 1 (by decide) rfl rfl fl_RX6_15 hR16 dX6_search_40 ?_
      refine lv_iload_n hx hb dX6_search_43 rfl (lv_at hl 3 rfl) ?_
      obtain ⟨hi17, h⟩ := ck_el h
      refine x_iald (len := 6) C S (by decide) hR16 hi17 dX6_search_44 ?_
      refine lv_iconst (v := (-1 : Int32)) hx hb dX6_search_45 (by decide) ?_
      refine lv_icmp_ne (tgt := 77) hx hb dX6_search_46 (by decide) (fun c18 => ?_) (fun c18 => ?_)
      · have h := it_n c18 h
        exact w_X6_search_77 C hr hSh ih σ15 x0 x1 x2 x3 h hx0 hx1 H locs ls S (lv_sub hl [0, 1, 2, 3] rfl)
      · have h := it_p c18 h
        refine lv_aload_n hx hb dX6_search_49 rfl (lv_at hl 0 rfl) ?_
        refine x_getI C S KX6 hx0 3 (by decide) rfl rfl fl_RX6_25 dX6_search_50 ?_
        refine lv_iconst (v := (4 : Int32)) hx hb dX6_search_53 (by decide) ?_
        refine lv_icmp_ge (tgt := 77) hx hb dX6_search_54 (by decide) (fun c19 => ?_) (fun c19 => ?_)
        · have h := it_p c19 h
          exact w_X6_search_77 C hr hSh ih σ15 x0 x1 x2 x3 h hx0 hx1 H locs ls S (lv_sub hl [0, 1, 2, 3] rfl)
        · have h := it_n c19 h
          refine lv_aload_n hx hb dX6_search_57 rfl (lv_at hl 0 rfl) ?_
          have hR20 : Ok 194 (R x0 0) 10004 := hSh x0 6 0 10004 hx0.1 rfl
          refine x_getR C S KX6 hx0 0 (by decide) rfl rfl fl_RX6_9 hR20 dX6_search_58 ?_
          refine lv_aload_n hx hb dX6_search_61 rfl (lv_at hl 0 rfl) ?_
          refine x_getI C S KX6 hx0 3 (by decide) rfl rfl fl_RX6_25 dX6_search_62 ?_
          refine lv_iload_n hx hb dX6_search_65 rfl (lv_at hl 3 rfl) ?_
          obtain ⟨hi21, h⟩ := ck_el h
          obtain ⟨σ22, hs22, h⟩ := sq_el h
          refine x_iast (len := 4) C S (by decide) hR20 hi21 dX6_search_66 hs22 (fun H locs S => ?_)
          refine lv_aload_n hx hb dX6_search_67 rfl (lv_at hl 0 rfl) ?_
          refine lv_dup hx hb dX6_search_68 rfl ?_
          refine x_getI C S KX6 hx0 3 (by decide) rfl rfl fl_RX6_25 dX6_search_69 ?_
          refine lv_iconst (v := (1 : Int32)) hx hb dX6_search_72 (by decide) ?_
          refine lv_iadd hx hb dX6_search_73 ?_
          obtain ⟨σ23, hs23, h⟩ := sq_el h
          refine x_putI C S KX6 hx0 3 (by decide) rfl rfl rfl ⟨rfl, rfl⟩ fl_RX6_25 dX6_search_74 hs23 (fun H locs S => ?_)
          exact w_X6_search_77 C hr hSh ih σ23 x0 x1 x2 x3 h hx0 hx1 H locs ls S (lv_sub hl [0, 1, 2, 3] rfl)
set_option maxHeartbeats 4000000 in
set_option maxRecDepth 100000 in
theorem ok_X6_search {l : Launch} {g : GL} {R : Nat → Nat → Nat} {L : Nat → Nat → Int64} {N : Nat} {σ : SI} {x0 : Nat} {x1 : Nat} {x2 : Int32} {r : (Unit × SI)} (h : f_X6_search N R σ x0 x1 x2 = some r) (hSh : ShR R) (hx0 : Ok 194 x0 6) (hx1 : Ok 194 x1 9) : Ct l g 17 yX6_search cX6_search 4 none 194 194 0 0 [.ref (gb g + x0), .ref (gb g + x1), .int x2] (mkS σ R L) (PV R L r) := by
  refine Met.ofW (cc := cX6_search) (maxL := 4) (ret := none) (by decide) rfl ?_
  intro p e s m args below meth c s₁ B hml hv
  obtain ⟨rfl, hE, hLo, hWd⟩ := hv
  have hr : meth.sig.returnType = none := B.returns
  have C : Cx l g p s m meth c cX6_search 4 RX6 := ⟨B.exec, B.bytes, hml, findClass_of_methodNamed B.named, hE, hLo, B.notSynchronized⟩
  have S : S2 g s σ R L s.heap [] := ⟨hWd, va_S.rf⟩
  have hx := C.1
  have hb := C.2.1
  have hl := lv_entry ([.ref (gb g + x0), .ref (gb g + x1), .int x2]) (n := 4) (Nat.le_of_ble_eq_true rfl)
  rw [lg_entry_eq]
  generalize (lg_sl ([.ref (gb g + x0), .ref (gb g + x1), .int x2]) ++ List.replicate (4 - (lg_sl ([.ref (gb g + x0), .ref (gb g + x1), .int x2])).length) Slot.unset).toArray = ls at hl ⊢
  have hl : lv_has ls 4 [(0, .ref (gb g + x0)), (1, .ref (gb g + x1)), (2, .int x2)] := hl
  generalize hH : s.heap = H at S ⊢
  generalize hlc : ([] : List Loc) = locs at S ⊢
  rw [f_X6_search] at h
  refine lv_aload_n hx hb dX6_search_0 rfl (lv_at hl 0 rfl) ?_
  refine lv_iconst (v := (0 : Int32)) hx hb dX6_search_1 (by decide) ?_
  obtain ⟨σ1, hs1, h⟩ := sq_el h
  refine x_putI C S KX6 hx0 3 (by decide) rfl rfl rfl ⟨rfl, rfl⟩ fl_RX6_25 dX6_search_2 hs1 (fun H locs S => ?_)
  refine lv_iconst (v := (0 : Int32)) hx hb dX6_search_5 (by decide) ?_
  refine lv_istore_n (lv' := [(3, .int (0 : Int32)), (0, .ref (gb g + x0)), (1, .ref (gb g + x1)), (2, .int x2)]) hx hb dX6_search_6 rfl hl (by decide) rfl (fun ls hl => ?_)
  exact w_X6_search_7 C hr hSh N σ1 x0 x1 x2 (0 : Int32) h hx0 hx1 H locs ls S (lv_sub hl [1, 2, 3, 0] rfl)
theorem dX11_findPlan_0 : decode cX11_findPlan 0 = .ok (.aload_n 0, 1) := by decide +kernel
theorem dX11_findPlan_1 : decode cX11_findPlan 1 = .ok (.getfield 61, 3) := by decide +kernel
theorem dX11_findPlan_4 : decode cX11_findPlan 4 = .ok (.invokevirtual 335, 3) := by decide +kernel
theorem dX11_findPlan_7 : decode cX11_findPlan 7 = .ok (.iconst 4, 1) := by decide +kernel
theorem dX11_findPlan_8 : decode cX11_findPlan 8 = .ok (.if_icmp .gt 15, 3) := by decide +kernel
theorem dX11_findPlan_11 : decode cX11_findPlan 11 = .ok (.aload_n 0, 1) := by decide +kernel
theorem dX11_findPlan_12 : decode cX11_findPlan 12 = .ok (.getfield 61, 3) := by decide +kernel
theorem dX11_findPlan_15 : decode cX11_findPlan 15 = .ok (.invokevirtual 121, 3) := by decide +kernel
theorem dX11_findPlan_18 : decode cX11_findPlan 18 = .ok (.bipush 12, 2) := by decide +kernel
theorem dX11_findPlan_20 : decode cX11_findPlan 20 = .ok (.if_icmp .le 14, 3) := by decide +kernel
theorem dX11_findPlan_23 : decode cX11_findPlan 23 = .ok (.new 257, 3) := by decide +kernel
theorem dX11_findPlan_26 : decode cX11_findPlan 26 = .ok (.dup, 1) := by decide +kernel
theorem dX11_findPlan_27 : decode cX11_findPlan 27 = .ok (.ldc_w 391, 3) := by decide +kernel
theorem dX11_findPlan_30 : decode cX11_findPlan 30 = .ok (.invokespecial 261, 3) := by decide +kernel
theorem dX11_findPlan_33 : decode cX11_findPlan 33 = .ok (.athrow, 1) := by decide +kernel
theorem dX11_findPlan_34 : decode cX11_findPlan 34 = .ok (.aload_n 0, 1) := by decide +kernel
theorem dX11_findPlan_35 : decode cX11_findPlan 35 = .ok (.getfield 26, 3) := by decide +kernel
theorem dX11_findPlan_38 : decode cX11_findPlan 38 = .ok (.getfield 393, 3) := by decide +kernel
theorem dX11_findPlan_41 : decode cX11_findPlan 41 = .ok (.ifCond .ne 25, 3) := by decide +kernel
theorem dX11_findPlan_44 : decode cX11_findPlan 44 = .ok (.aload_n 0, 1) := by decide +kernel
theorem dX11_findPlan_45 : decode cX11_findPlan 45 = .ok (.getfield 26, 3) := by decide +kernel
theorem dX11_findPlan_48 : decode cX11_findPlan 48 = .ok (.aload_n 0, 1) := by decide +kernel
theorem dX11_findPlan_49 : decode cX11_findPlan 49 = .ok (.getfield 61, 3) := by decide +kernel
theorem dX11_findPlan_52 : decode cX11_findPlan 52 = .ok (.aload_n 0, 1) := by decide +kernel
theorem dX11_findPlan_53 : decode cX11_findPlan 53 = .ok (.getfield 61, 3) := by decide +kernel
theorem dX11_findPlan_56 : decode cX11_findPlan 56 = .ok (.aload_n 0, 1) := by decide +kernel
theorem dX11_findPlan_57 : decode cX11_findPlan 57 = .ok (.getfield 47, 3) := by decide +kernel
theorem dX11_findPlan_60 : decode cX11_findPlan 60 = .ok (.invokevirtual 283, 3) := by decide +kernel
theorem dX11_findPlan_63 : decode cX11_findPlan 63 = .ok (.invokevirtual 396, 3) := by decide +kernel
theorem dX11_findPlan_66 : decode cX11_findPlan 66 = .ok (.return_, 1) := by decide +kernel
def f_X11_findPlan_23 (N : Nat) (R : Nat → Nat → Nat) (σ : SI) : Option ((Unit ⊕ Nat) × SI) := some (.inr 2, σ)
def f_X11_findPlan (N : Nat) (R : Nat → Nat → Nat) (σ : SI) (x0 : Nat) : Option ((Unit ⊕ Nat) × SI) := bd (f_X9_openTotal N R σ (R x0 8)) (fun a2 σ2 => if (4 : Int32) < a2 then (f_X11_findPlan_23 N R σ2) else (bd (f_X9_startTotal N R σ2 (R x0 8)) (fun a5 σ5 => if a5 ≤ (12 : Int32) then (if (σ5 (R x0 2) 5) = 0 then (bd (f_X9_closedTotal N R σ5 (R x0 8) (R x0 5)) (fun a13 σ13 => bd (f_X6_search N R σ13 (R x0 2) (R x0 8) a13) (fun _ σ14 => some (.inl (), σ14)))) else (some (.inl (), σ5))) else (f_X11_findPlan_23 N R σ5))))
set_option maxHeartbeats 4000000 in
set_option maxRecDepth 100000 in
theorem w_X11_findPlan_23 {l : Launch} {g : GL} {p : Program} {e : Jvm.Env} {s : State} {m : MethodId} {args : Array Value} {below : List Frame} {meth : Method} {c : Code} {R : Nat → Nat → Nat} {L : Nat → Nat → Int64} {r : ((Unit ⊕ Nat) × SI)} {N : Nat} (C : Cx l g p s m meth c cX11_findPlan 1 RX11) (hr : meth.sig.returnType = none) (hT : ∀ x ∈ c.exceptionTable.toList, False) (hSh : ShR R) : ∀ (σ : SI), f_X11_findPlan_23 N R σ = some r → ∀ (H : Heap) (locs : List Loc) (ls : Array Slot), S2 g s σ R L H locs → lv_has ls 1 [] → W p l e (rmd 18 1 6) s m args below meth c H locs 0 0 (vx_MQ below (Qg g 194 (PVX R L r)) (Xg g 194 (PX R L r)) args s 1 6 (gA g)) (F0 m 23 ls []) := by
  have hx := C.1
  have hb := C.2.1
  intro σ h H locs ls S hl
  rw [f_X11_findPlan_23] at h
  exact x_throwW (q := 2) C S (by decide) cl_RX11_257 ni_ex2 (show (RX11, 391, "too many open blasts or start minutes", 24) ∈ strTab by decide) at_RX11_261 hl.1 dX11_findPlan_23 dX11_findPlan_26 dX11_findPlan_27 dX11_findPlan_30 dX11_findPlan_33 hT (by decide) (Nat.le_of_ble_eq_true rfl) (by decide) (by decide) (by decide) (by decide) rfl h
set_option maxHeartbeats 4000000 in
set_option maxRecDepth 100000 in
theorem ok_X11_findPlan {l : Launch} {g : GL} {R : Nat → Nat → Nat} {L : Nat → Nat → Int64} {N : Nat} {σ : SI} {x0 : Nat} {r : ((Unit ⊕ Nat) × SI)} (h : f_X11_findPlan N R σ x0 = some r) (hSh : ShR R) (hx0 : Ok 194 x0 11) : CtX l g 18 yX11_findPlan cX11_findPlan 1 none 194 194 1 6 [.ref (gb g + x0)] (mkS σ R L) (PVX R L r) (PX R L r) := by
  refine vx_ofW (cc := cX11_findPlan) (maxL := 1) (ret := none) (by decide) rfl ?_
  intro p e s m args below meth c s₁ B hml hT hv
  obtain ⟨rfl, hE, hLo, hWd⟩ := hv
  have hr : meth.sig.returnType = none := B.returns
  have C : Cx l g p s m meth c cX11_findPlan 1 RX11 := ⟨B.exec, B.bytes, hml, findClass_of_methodNamed B.named, hE, hLo, B.notSynchronized⟩
  have S : S2 g s σ R L s.heap [] := ⟨hWd, va_S.rf⟩
  have hx := C.1
  have hb := C.2.1
  have hl := lv_entry ([.ref (gb g + x0)]) (n := 1) (Nat.le_of_ble_eq_true rfl)
  rw [lg_entry_eq]
  generalize (lg_sl ([.ref (gb g + x0)]) ++ List.replicate (1 - (lg_sl ([.ref (gb g + x0)])).length) Slot.unset).toArray = ls at hl ⊢
  have hl : lv_has ls 1 [(0, .ref (gb g + x0))] := hl
  generalize hH : s.heap = H at S ⊢
  generalize hlc : ([] : List Loc) = locs at S ⊢
  rw [f_X11_findPlan] at h
  refine lv_aload_n hx hb dX11_findPlan_0 rfl (lv_at hl 0 rfl) ?_
  have hR1 : Ok 194 (R x0 8) 9 := hSh x0 11 8 9 hx0.1 rfl
  refine x_getR C S KX11 hx0 8 (by decide) rfl rfl fl_RX11_61 hR1 dX11_findPlan_1 ?_
  obtain ⟨a2, σ2, hc2, h⟩ := bd_el h
  refine x_callVI C S KX9 hR1 (ok_X9_openTotal (L := L) hc2 hSh hR1) ⟨cd_X9_openTotal, ni_RX9, ml_RX11_335, in_X9_openTotal, sl_X9_openTotal⟩ ⟨by decide, by decide⟩ rfl (rm_ok (by decide) (by decide)) hl.1 rfl (Nat.le_of_ble_eq_true rfl) ⟨by decide, by decide⟩ dX11_findPlan_4 (fun H locs S => ?_)
  refine lv_iconst (v := (4 : Int32)) hx hb dX11_findPlan_7 (by decide) ?_
  refine lv_icmp_gt (tgt := 23) hx hb dX11_findPlan_8 (by decide) (fun c3 => ?_) (fun c3 => ?_)
  · have h := it_p c3 h
    exact w_X11_findPlan_23 C hr hT hSh σ2 h H locs ls S (lv_sub hl [] rfl)
  · have h := it_n c3 h
    refine lv_aload_n hx hb dX11_findPlan_11 rfl (lv_at hl 0 rfl) ?_
    have hR4 : Ok 194 (R x0 8) 9 := hSh x0 11 8 9 hx0.1 rfl
    refine x_getR C S KX11 hx0 8 (by decide) rfl rfl fl_RX11_61 hR4 dX11_findPlan_12 ?_
    obtain ⟨a5, σ5, hc5, h⟩ := bd_el h
    refine x_callVI C S KX9 hR4 (ok_X9_startTotal (L := L) hc5 hSh hR4) ⟨cd_X9_startTotal, ni_RX9, ml_RX11_121, in_X9_startTotal, sl_X9_startTotal⟩ ⟨by decide, by decide⟩ rfl (rm_ok (by decide) (by decide)) hl.1 rfl (Nat.le_of_ble_eq_true rfl) ⟨by decide, by decide⟩ dX11_findPlan_15 (fun H locs S => ?_)
    refine lv_bipush (v := (12 : Int32)) hx hb dX11_findPlan_18 (by decide) ?_
    refine lv_icmp_le (tgt := 34) hx hb dX11_findPlan_20 (by decide) (fun c6 => ?_) (fun c6 => ?_)
    · have h := it_p c6 h
      refine lv_aload_n hx hb dX11_findPlan_34 rfl (lv_at hl 0 rfl) ?_
      have hR7 : Ok 194 (R x0 2) 6 := hSh x0 11 2 6 hx0.1 rfl
      refine x_getR C S KX11 hx0 2 (by decide) rfl rfl fl_RX11_26 hR7 dX11_findPlan_35 ?_
      refine x_getI C S KX6 hR7 5 (by decide) rfl rfl fl_RX11_393 dX11_findPlan_38 ?_
      refine lv_if_ne (tgt := 66) hx hb dX11_findPlan_41 (by decide) (fun c8 => ?_) (fun c8 => ?_)
      · have h := it_n c8 h
        exact x_vretX C S hr (by decide) (by decide) h dX11_findPlan_66
      · have h := it_p c8 h
        refine lv_aload_n hx hb dX11_findPlan_44 rfl (lv_at hl 0 rfl) ?_
        have hR9 : Ok 194 (R x0 2) 6 := hSh x0 11 2 6 hx0.1 rfl
        refine x_getR C S KX11 hx0 2 (by decide) rfl rfl fl_RX11_26 hR9 dX11_findPlan_45 ?_
        refine lv_aload_n hx hb dX11_findPlan_48 rfl (lv_at hl 0 rfl) ?_
        have hR10 : Ok 194 (R x0 8) 9 := hSh x0 11 8 9 hx0.1 rfl
        refine x_getR C S KX11 hx0 8 (by decide) rfl rfl fl_RX11_61 hR10 dX11_findPlan_49 ?_
        refine lv_aload_n hx hb dX11_findPlan_52 rfl (lv_at hl 0 rfl) ?_
        have hR11 : Ok 194 (R x0 8) 9 := hSh x0 11 8 9 hx0.1 rfl
        refine x_getR C S KX11 hx0 8 (by decide) rfl rfl fl_RX11_61 hR11 dX11_findPlan_53 ?_
        refine lv_aload_n hx hb dX11_findPlan_56 rfl (lv_at hl 0 rfl) ?_
        have hR12 : Ok 194 (R x0 5) 3 := hSh x0 11 5 3 hx0.1 rfl
        refine x_getR C S KX11 hx0 5 (by decide) rfl rfl fl_RX11_47 hR12 dX11_findPlan_57 ?_
        obtain ⟨a13, σ13, hc13, h⟩ := bd_el h
        refine x_callVI C S KX9 hR11 (ok_X9_closedTotal (L := L) hc13 hSh hR11 hR12) ⟨cd_X9_closedTotal, ni_RX9, ml_RX11_283, in_X9_closedTotal, sl_X9_closedTotal⟩ ⟨by decide, by decide⟩ rfl (rm_ok (by decide) (by decide)) hl.1 rfl (Nat.le_of_ble_eq_true rfl) ⟨by decide, by decide⟩ dX11_findPlan_60 (fun H locs S => ?_)
        obtain ⟨a14, σ14, hc14, h⟩ := bd_el h
        refine x_callVV C S KX6 hR9 (ok_X6_search (L := L) hc14 hSh hR9 hR10) ⟨cd_X6_search, ni_RX6, ml_RX11_396, in_X6_search, sl_X6_search⟩ ⟨by decide, by decide⟩ rfl (rm_ok (by decide) (by decide)) hl.1 rfl (Nat.le_of_ble_eq_true rfl) ⟨by decide, by decide⟩ dX11_findPlan_63 (fun H locs S => ?_)
        exact x_vretX C S hr (by decide) (by decide) h dX11_findPlan_66
    · have h := it_n c6 h
      exact w_X11_findPlan_23 C hr hT hSh σ5 h H locs ls S (lv_sub hl [] rfl)
theorem dX5_parse_0 : decode cX5_parse 0 = .ok (.aload_n 0, 1) := by decide +kernel
theorem dX5_parse_1 : decode cX5_parse 1 = .ok (.getfield 12, 3) := by decide +kernel
theorem dX5_parse_4 : decode cX5_parse 4 = .ok (.invokevirtual 18, 3) := by decide +kernel
theorem dX5_parse_7 : decode cX5_parse 7 = .ok (.aload_n 1, 1) := by decide +kernel
theorem dX5_parse_8 : decode cX5_parse 8 = .ok (.invokevirtual 21, 3) := by decide +kernel
theorem dX5_parse_11 : decode cX5_parse 11 = .ok (.iconst 0, 1) := by decide +kernel
theorem dX5_parse_12 : decode cX5_parse 12 = .ok (.istore_n 2, 1) := by decide +kernel
theorem dX5_parse_13 : decode cX5_parse 13 = .ok (.iload_n 2, 1) := by decide +kernel
theorem dX5_parse_14 : decode cX5_parse 14 = .ok (.sipush 800, 3) := by decide +kernel
theorem dX5_parse_17 : decode cX5_parse 17 = .ok (.if_icmp .gt 48, 3) := by decide +kernel
theorem dX5_parse_20 : decode cX5_parse 20 = .ok (.aload_n 0, 1) := by decide +kernel
theorem dX5_parse_21 : decode cX5_parse 21 = .ok (.getfield 12, 3) := by decide +kernel
theorem dX5_parse_24 : decode cX5_parse 24 = .ok (.invokevirtual 26, 3) := by decide +kernel
theorem dX5_parse_27 : decode cX5_parse 27 = .ok (.ifCond .ne 38, 3) := by decide +kernel
theorem dX5_parse_30 : decode cX5_parse 30 = .ok (.aload_n 0, 1) := by decide +kernel
theorem dX5_parse_31 : decode cX5_parse 31 = .ok (.getfield 12, 3) := by decide +kernel
theorem dX5_parse_34 : decode cX5_parse 34 = .ok (.invokevirtual 30, 3) := by decide +kernel
theorem dX5_parse_37 : decode cX5_parse 37 = .ok (.ifCond .ne 28, 3) := by decide +kernel
theorem dX5_parse_40 : decode cX5_parse 40 = .ok (.aload_n 0, 1) := by decide +kernel
theorem dX5_parse_41 : decode cX5_parse 41 = .ok (.aload_n 1, 1) := by decide +kernel
theorem dX5_parse_42 : decode cX5_parse 42 = .ok (.invokevirtual 33, 3) := by decide +kernel
theorem dX5_parse_45 : decode cX5_parse 45 = .ok (.aload_n 0, 1) := by decide +kernel
theorem dX5_parse_46 : decode cX5_parse 46 = .ok (.getfield 12, 3) := by decide +kernel
theorem dX5_parse_49 : decode cX5_parse 49 = .ok (.aload_n 0, 1) := by decide +kernel
theorem dX5_parse_50 : decode cX5_parse 50 = .ok (.getfield 12, 3) := by decide +kernel
theorem dX5_parse_53 : decode cX5_parse 53 = .ok (.invokevirtual 37, 3) := by decide +kernel
theorem dX5_parse_56 : decode cX5_parse 56 = .ok (.invokevirtual 40, 3) := by decide +kernel
theorem dX5_parse_59 : decode cX5_parse 59 = .ok (.iinc 2 1, 3) := by decide +kernel
theorem dX5_parse_62 : decode cX5_parse 62 = .ok (.goto (-49), 3) := by decide +kernel
theorem dX5_parse_65 : decode cX5_parse 65 = .ok (.aload_n 0, 1) := by decide +kernel
theorem dX5_parse_66 : decode cX5_parse 66 = .ok (.getfield 12, 3) := by decide +kernel
theorem dX5_parse_69 : decode cX5_parse 69 = .ok (.invokevirtual 26, 3) := by decide +kernel
theorem dX5_parse_72 : decode cX5_parse 72 = .ok (.ifCond .ne 7, 3) := by decide +kernel
theorem dX5_parse_75 : decode cX5_parse 75 = .ok (.iconst 1, 1) := by decide +kernel
theorem dX5_parse_76 : decode cX5_parse 76 = .ok (.goto 4, 3) := by decide +kernel
theorem dX5_parse_79 : decode cX5_parse 79 = .ok (.iconst 0, 1) := by decide +kernel
theorem dX5_parse_80 : decode cX5_parse 80 = .ok (.ireturn, 1) := by decide +kernel
def f_X5_parse_65 (N : Nat) (R : Nat → Nat → Nat) (σ : SI) (x0 : Nat) : Option (Int32 × SI) := bd (f_X10_failed N R σ (R x0 0)) (fun a6 σ6 => if a6 = 0 then (some ((1 : Int32), σ6)) else (some ((0 : Int32), σ6)))
def f_X5_parse_13 (N : Nat) (R : Nat → Nat → Nat) : Nat → SI → Nat → Nat → Int32 → Option (Int32 × SI)
  | 0, _, _, _, _ => none
  | n + 1, σ, x0, x1, x2 => if (800 : Int32) < x2 then (f_X5_parse_65 N R σ x0) else (bd (f_X10_failed N R σ (R x0 0)) (fun a9 σ9 => if a9 = 0 then (bd (f_X10_atEnd N R σ9 (R x0 0)) (fun a12 σ12 => if a12 = 0 then (bd (f_X5_parseLine N R σ12 x0 x1) (fun _ σ14 => bd (f_X10_tookSemicolon N R σ14 (R x0 0)) (fun a17 σ17 => bd (f_X10_need N R σ17 (R x0 0) a17) (fun _ σ18 => f_X5_parse_13 N R n σ18 x0 x1 (x2 + 1))))) else (f_X5_parse_65 N R σ12 x0))) else (f_X5_parse_65 N R σ9 x0)))
def f_X5_parse (N : Nat) (R : Nat → Nat → Nat) (σ : SI) (x0 : Nat) (x1 : Nat) : Option (Int32 × SI) := bd (f_X10_begin N R σ (R x0 0)) (fun _ σ2 => bd (f_X9_reset N R σ2 x1) (fun _ σ3 => f_X5_parse_13 N R N σ3 x0 x1 (0 : Int32)))
set_option maxHeartbeats 4000000 in
set_option maxRecDepth 100000 in
theorem w_X5_parse_65 {l : Launch} {g : GL} {p : Program} {e : Jvm.Env} {s : State} {m : MethodId} {args : Array Value} {below : List Frame} {meth : Method} {c : Code} {R : Nat → Nat → Nat} {L : Nat → Nat → Int64} {r : (Int32 × SI)} {N : Nat} (C : Cx l g p s m meth c cX5_parse 3 RX5) (hr : meth.sig.returnType = (some .boolean)) (hSh : ShR R) : ∀ (σ : SI) (x0 : Nat), f_X5_parse_65 N R σ x0 = some r → Ok 194 x0 5 → ∀ (H : Heap) (locs : List Loc) (ls : Array Slot), S2 g s σ R L H locs → lv_has ls 3 [(0, .ref (gb g + x0))] → W p l e (rmd 9 0 0) s m args below meth c H locs 0 0 (MQ below (Qg g 194 (PI R L r)) args s 0 0 (gA g)) (F0 m 65 ls []) := by
  have hx := C.1
  have hb := C.2.1
  intro σ x0 h hx0 H locs ls S hl
  rw [f_X5_parse_65] at h
  refine lv_aload_n hx hb dX5_parse_65 rfl (lv_at hl 0 rfl) ?_
  have hR5 : Ok 194 (R x0 0) 10 := hSh x0 5 0 10 hx0.1 rfl
  refine x_getR C S KX5 hx0 0 (by decide) rfl rfl fl_RX5_12 hR5 dX5_parse_66 ?_
  obtain ⟨a6, σ6, hc6, h⟩ := bd_el h
  refine x_callVI C S KX10 hR5 (ok_X10_failed (L := L) hc6 hSh hR5) ⟨cd_X10_failed, ni_RX10, ml_RX5_26, in_X10_failed, sl_X10_failed⟩ ⟨by decide, by decide⟩ rfl (rm_ok (by decide) (by decide)) hl.1 rfl (Nat.le_of_ble_eq_true rfl) ⟨by decide, by decide⟩ dX5_parse_69 (fun H locs S => ?_)
  refine lv_if_ne (tgt := 79) hx hb dX5_parse_72 (by decide) (fun c7 => ?_) (fun c7 => ?_)
  · have h := it_n c7 h
    refine lv_iconst (v := (0 : Int32)) hx hb dX5_parse_79 (by decide) ?_
    exact x_zret C S hr (by decide) h dX5_parse_80
  · have h := it_p c7 h
    refine lv_iconst (v := (1 : Int32)) hx hb dX5_parse_75 (by decide) ?_
    refine lv_goto (tgt := 80) hx hb dX5_parse_76 (by decide) ?_
    exact x_zret C S hr (by decide) h dX5_parse_80
set_option maxHeartbeats 4000000 in
set_option maxRecDepth 100000 in
theorem w_X5_parse_13 {l : Launch} {g : GL} {p : Program} {e : Jvm.Env} {s : State} {m : MethodId} {args : Array Value} {below : List Frame} {meth : Method} {c : Code} {R : Nat → Nat → Nat} {L : Nat → Nat → Int64} {r : (Int32 × SI)} {N : Nat} (C : Cx l g p s m meth c cX5_parse 3 RX5) (hr : meth.sig.returnType = (some .boolean)) (hSh : ShR R) : ∀ (n : Nat) (σ : SI) (x0 : Nat) (x1 : Nat) (x2 : Int32), f_X5_parse_13 N R n σ x0 x1 x2 = some r → Ok 194 x0 5 → Ok 194 x1 9 → ∀ (H : Heap) (locs : List Loc) (ls : Array Slot), S2 g s σ R L H locs → lv_has ls 3 [(0, .ref (gb g + x0)), (1, .ref (gb g + x1)), (2, .int x2)] → W p l e (rmd 9 0 0) s m args below meth c H locs 0 0 (MQ below (Qg g 194 (PI R L r)) args s 0 0 (gA g)) (F0 m 13 ls []) := by
  have hx := C.1
  have hb := C.2.1
  intro n
  induction n with
  | zero =>
    intro σ x0 x1 x2 h
    cases (show (none : Option (Int32 × SI)) = some r from h)
  | succ n ih =>
    intro σ x0 x1 x2 h hx0 hx1 H locs ls S hl
    rw [f_X5_parse_13] at h
    refine lv_iload_n hx hb dX5_parse_13 rfl (lv_at hl 2 rfl) ?_
    refine lv_sipush (v := (800 : Int32)) hx hb dX5_parse_14 (by decide) ?_
    refine lv_icmp_gt (tgt := 65) hx hb dX5_parse_17 (by decide) (fun c4 => ?_) (fun c4 => ?_)
    · have h := it_p c4 h
      exact w_X5_parse_65 C hr hSh σ x0 h hx0 H locs ls S (lv_sub hl [0] rfl)
    · have h := it_n c4 h
      refine lv_aload_n hx hb dX5_parse_20 rfl (lv_at hl 0 rfl) ?_
      have hR8 : Ok 194 (R x0 0) 10 := hSh x0 5 0 10 hx0.1 rfl
      refine x_getR C S KX5 hx0 0 (by decide) rfl rfl fl_RX5_12 hR8 dX5_parse_21 ?_
      obtain ⟨a9, σ9, hc9, h⟩ := bd_el h
      refine x_callVI C S KX10 hR8 (ok_X10_failed (L := L) hc9 hSh hR8) ⟨cd_X10_failed, ni_RX10, ml_RX5_26, in_X10_failed, sl_X10_failed⟩ ⟨by decide, by decide⟩ rfl (rm_ok (by decide) (by decide)) hl.1 rfl (Nat.le_of_ble_eq_true rfl) ⟨by decide, by decide⟩ dX5_parse_24 (fun H locs S => ?_)
      refine lv_if_ne (tgt := 65) hx hb dX5_parse_27 (by decide) (fun c10 => ?_) (fun c10 => ?_)
      · have h := it_n c10 h
        exact w_X5_parse_65 C hr hSh σ9 x0 h hx0 H locs ls S (lv_sub hl [0] rfl)
      · have h := it_p c10 h
        refine lv_aload_n hx hb dX5_parse_30 rfl (lv_at hl 0 rfl) ?_
        have hR11 : Ok 194 (R x0 0) 10 := hSh x0 5 0 10 hx0.1 rfl
        refine x_getR C S KX5 hx0 0 (by decide) rfl rfl fl_RX5_12 hR11 dX5_parse_31 ?_
        obtain ⟨a12, σ12, hc12, h⟩ := bd_el h
        refine x_callVI C S KX10 hR11 (ok_X10_atEnd (L := L) hc12 hSh hR11) ⟨cd_X10_atEnd, ni_RX10, ml_RX5_30, in_X10_atEnd, sl_X10_atEnd⟩ ⟨by decide, by decide⟩ rfl (rm_ok (by decide) (by decide)) hl.1 rfl (Nat.le_of_ble_eq_true rfl) ⟨by decide, by decide⟩ dX5_parse_34 (fun H locs S => ?_)
        refine lv_if_ne (tgt := 65) hx hb dX5_parse_37 (by decide) (fun c13 => ?_) (fun c13 => ?_)
        · have h := it_n c13 h
          exact w_X5_parse_65 C hr hSh σ12 x0 h hx0 H locs ls S (lv_sub hl [0] rfl)
        · have h := it_p c13 h
          refine lv_aload_n hx hb dX5_parse_40 rfl (lv_at hl 0 rfl) ?_
          refine lv_aload_n hx hb dX5_parse_41 rfl (lv_at hl 1 rfl) ?_
          obtain ⟨a14, σ14, hc14, h⟩ := bd_el h
          refine x_callVV C S KX5 hx0 (ok_X5_parseLine (L := L) hc14 hSh hx0 hx1) ⟨cd_X5_parseLine, ni_RX5, ml_RX5_33, in_X5_parseLine, sl_X5_parseLine⟩ ⟨by decide, by decide⟩ rfl (rm_ok (by decide) (by decide)) hl.1 rfl (Nat.le_of_ble_eq_true rfl) ⟨by decide, by decide⟩ dX5_parse_42 (fun H locs S => ?_)
          refine lv_aload_n hx hb dX5_parse_45 rfl (lv_at hl 0 rfl) ?_
          have hR15 : Ok 194 (R x0 0) 10 := hSh x0 5 0 10 hx0.1 rfl
          refine x_getR C S KX5 hx0 0 (by decide) rfl rfl fl_RX5_12 hR15 dX5_parse_46 ?_
          refine lv_aload_n hx hb dX5_parse_49 rfl (lv_at hl 0 rfl) ?_
          have hR16 : Ok 194 (R x0 0) 10 := hSh x0 5 0 10 hx0.1 rfl
          refine x_getR C S KX5 hx0 0 (by decide) rfl rfl fl_RX5_12 hR16 dX5_parse_50 ?_
          obtain ⟨a17, σ17, hc17, h⟩ := bd_el h
          refine x_callVI C S KX10 hR16 (ok_X10_tookSemicolon (L := L) hc17 hSh hR16) ⟨cd_X10_tookSemicolon, ni_RX10, ml_RX5_37, in_X10_tookSemicolon, sl_X10_tookSemicolon⟩ ⟨by decide, by decide⟩ rfl (rm_ok (by decide) (by decide)) hl.1 rfl (Nat.le_of_ble_eq_true rfl) ⟨by decide, by decide⟩ dX5_parse_53 (fun H locs S => ?_)
          obtain ⟨a18, σ18, hc18, h⟩ := bd_el h
          refine x_callVV C S KX10 hR15 (ok_X10_need (L := L) hc18 hSh hR15) ⟨cd_X10_need, ni_RX10, ml_RX5_40, in_X10_need, sl_X10_need⟩ ⟨by decide, by decide⟩ rfl (rm_ok (by decide) (by decide)) hl.1 rfl (Nat.le_of_ble_eq_true rfl) ⟨by decide, by decide⟩ dX5_parse_56 (fun H locs S => ?_)
          refine lv_iinc (v := x2 + 1) (lv' := [(2, .int (x2 + 1)), (0, .ref (gb g + x0)), (1, .ref (gb g + x1))]) hx hb dX5_parse_59 hl (k := 2) rfl rfl (by decide) rfl (fun ls hl => ?_)
          refine lv_goto (tgt := 13) hx hb dX5_parse_62 (by decide) ?_
          exact ih σ18 x0 x1 (x2 + 1) h hx0 hx1 H locs ls S (lv_sub hl [1, 2, 0] rfl)
set_option maxHeartbeats 4000000 in
set_option maxRecDepth 100000 in
theorem ok_X5_parse {l : Launch} {g : GL} {R : Nat → Nat → Nat} {L : Nat → Nat → Int64} {N : Nat} {σ : SI} {x0 : Nat} {x1 : Nat} {r : (Int32 × SI)} (h : f_X5_parse N R σ x0 x1 = some r) (hSh : ShR R) (hx0 : Ok 194 x0 5) (hx1 : Ok 194 x1 9) : Ct l g 9 yX5_parse cX5_parse 3 (some .boolean) 194 194 0 0 [.ref (gb g + x0), .ref (gb g + x1)] (mkS σ R L) (PI R L r) := by
  refine Met.ofW (cc := cX5_parse) (maxL := 3) (ret := (some .boolean)) (by decide) rfl ?_
  intro p e s m args below meth c s₁ B hml hv
  obtain ⟨rfl, hE, hLo, hWd⟩ := hv
  have hr : meth.sig.returnType = (some .boolean) := B.returns
  have C : Cx l g p s m meth c cX5_parse 3 RX5 := ⟨B.exec, B.bytes, hml, findClass_of_methodNamed B.named, hE, hLo, B.notSynchronized⟩
  have S : S2 g s σ R L s.heap [] := ⟨hWd, va_S.rf⟩
  have hx := C.1
  have hb := C.2.1
  have hl := lv_entry ([.ref (gb g + x0), .ref (gb g + x1)]) (n := 3) (Nat.le_of_ble_eq_true rfl)
  rw [lg_entry_eq]
  generalize (lg_sl ([.ref (gb g + x0), .ref (gb g + x1)]) ++ List.replicate (3 - (lg_sl ([.ref (gb g + x0), .ref (gb g + x1)])).length) Slot.unset).toArray = ls at hl ⊢
  have hl : lv_has ls 3 [(0, .ref (gb g + x0)), (1, .ref (gb g + x1))] := hl
  generalize hH : s.heap = H at S ⊢
  generalize hlc : ([] : List Loc) = locs at S ⊢
  rw [f_X5_parse] at h
  refine lv_aload_n hx hb dX5_parse_0 rfl (lv_at hl 0 rfl) ?_
  have hR1 : Ok 194 (R x0 0) 10 := hSh x0 5 0 10 hx0.1 rfl
  refine x_getR C S KX5 hx0 0 (by decide) rfl rfl fl_RX5_12 hR1 dX5_parse_1 ?_
  obtain ⟨a2, σ2, hc2, h⟩ := bd_el h
  refine x_callVV C S KX10 hR1 (ok_X10_begin (L := L) hc2 hSh hR1) ⟨cd_X10_begin, ni_RX10, ml_RX5_18, in_X10_begin, sl_X10_begin⟩ ⟨by decide, by decide⟩ rfl (rm_ok (by decide) (by decide)) hl.1 rfl (Nat.le_of_ble_eq_true rfl) ⟨by decide, by decide⟩ dX5_parse_4 (fun H locs S => ?_)
  refine lv_aload_n hx hb dX5_parse_7 rfl (lv_at hl 1 rfl) ?_
  obtain ⟨a3, σ3, hc3, h⟩ := bd_el h
  refine x_callVV C S KX9 hx1 (ok_X9_reset (L := L) hc3 hSh hx1) ⟨cd_X9_reset, ni_RX9, ml_RX5_21, in_X9_reset, sl_X9_reset⟩ ⟨by decide, by decide⟩ rfl (rm_ok (by decide) (by decide)) hl.1 rfl (Nat.le_of_ble_eq_true rfl) ⟨by decide, by decide⟩ dX5_parse_8 (fun H locs S => ?_)
  refine lv_iconst (v := (0 : Int32)) hx hb dX5_parse_11 (by decide) ?_
  refine lv_istore_n (lv' := [(2, .int (0 : Int32)), (0, .ref (gb g + x0)), (1, .ref (gb g + x1))]) hx hb dX5_parse_12 rfl hl (by decide) rfl (fun ls hl => ?_)
  exact w_X5_parse_13 C hr hSh N σ3 x0 x1 (0 : Int32) h hx0 hx1 H locs ls S (lv_sub hl [1, 2, 0] rfl)
theorem dX11_planLength_0 : decode cX11_planLength 0 = .ok (.aload_n 0, 1) := by decide +kernel
theorem dX11_planLength_1 : decode cX11_planLength 1 = .ok (.invokevirtual 324, 3) := by decide +kernel
theorem dX11_planLength_4 : decode cX11_planLength 4 = .ok (.aload_n 0, 1) := by decide +kernel
theorem dX11_planLength_5 : decode cX11_planLength 5 = .ok (.getfield 26, 3) := by decide +kernel
theorem dX11_planLength_8 : decode cX11_planLength 8 = .ok (.getfield 327, 3) := by decide +kernel
theorem dX11_planLength_11 : decode cX11_planLength 11 = .ok (.ireturn, 1) := by decide +kernel
def f_X11_planLength (N : Nat) (R : Nat → Nat → Nat) (σ : SI) (x0 : Nat) : Option ((Int32 ⊕ Nat) × SI) := bdX (f_X11_findPlan N R σ x0) (fun _ σ2 => some (.inl (σ2 (R x0 2) 4), σ2))
set_option maxHeartbeats 4000000 in
set_option maxRecDepth 100000 in
theorem ok_X11_planLength {l : Launch} {g : GL} {R : Nat → Nat → Nat} {L : Nat → Nat → Int64} {N : Nat} {σ : SI} {x0 : Nat} {r : ((Int32 ⊕ Nat) × SI)} (h : f_X11_planLength N R σ x0 = some r) (hSh : ShR R) (hx0 : Ok 194 x0 11) : CtX l g 19 yX11_planLength cX11_planLength 1 (some .int) 194 194 1 6 [.ref (gb g + x0)] (mkS σ R L) (PIX R L r) (PX R L r) := by
  refine vx_ofW (cc := cX11_planLength) (maxL := 1) (ret := (some .int)) (by decide) rfl ?_
  intro p e s m args below meth c s₁ B hml hT hv
  obtain ⟨rfl, hE, hLo, hWd⟩ := hv
  have hr : meth.sig.returnType = (some .int) := B.returns
  have C : Cx l g p s m meth c cX11_planLength 1 RX11 := ⟨B.exec, B.bytes, hml, findClass_of_methodNamed B.named, hE, hLo, B.notSynchronized⟩
  have S : S2 g s σ R L s.heap [] := ⟨hWd, va_S.rf⟩
  have hx := C.1
  have hb := C.2.1
  have hl := lv_entry ([.ref (gb g + x0)]) (n := 1) (Nat.le_of_ble_eq_true rfl)
  rw [lg_entry_eq]
  generalize (lg_sl ([.ref (gb g + x0)]) ++ List.replicate (1 - (lg_sl ([.ref (gb g + x0)])).length) Slot.unset).toArray = ls at hl ⊢
  have hl : lv_has ls 1 [(0, .ref (gb g + x0))] := hl
  generalize hH : s.heap = H at S ⊢
  generalize hlc : ([] : List Loc) = locs at S ⊢
  rw [f_X11_planLength] at h
  refine lv_aload_n hx hb dX11_planLength_0 rfl (lv_at hl 0 rfl) ?_
  rcases bdX_el h with ⟨a2, σ2, hc2, h⟩ | ⟨q2, σ2, hc2, hr2⟩
  · refine x_callXV C S KX11 hx0 (ok_X11_findPlan (L := L) hc2 hSh hx0) ⟨cd_X11_findPlan, ni_RX11, ml_RX11_324, in_X11_findPlan, sl_X11_findPlan⟩ ⟨by decide, by decide⟩ rfl (rm_ok (by decide) (by decide)) hl.1 rfl (Nat.le_of_ble_eq_true rfl) ⟨by decide, by decide⟩ dX11_planLength_1 hT ⟨by decide, by decide⟩ (fun H locs S => ?_)
    refine lv_aload_n hx hb dX11_planLength_4 rfl (lv_at hl 0 rfl) ?_
    have hR3 : Ok 194 (R x0 2) 6 := hSh x0 11 2 6 hx0.1 rfl
    refine x_getR C S KX11 hx0 2 (by decide) rfl rfl fl_RX11_26 hR3 dX11_planLength_5 ?_
    refine x_getI C S KX6 hR3 4 (by decide) rfl rfl fl_RX11_327 dX11_planLength_8 ?_
    exact x_iretX C S hr (by decide) (by decide) h dX11_planLength_11
  · exact x_callXX C S KX11 hx0 (ok_X11_findPlan (L := L) hc2 hSh hx0) n_PVX ⟨cd_X11_findPlan, ni_RX11, ml_RX11_324, in_X11_findPlan, sl_X11_findPlan⟩ ⟨by decide, by decide⟩ rfl (rm_ok (by decide) (by decide)) hl.1 rfl (Nat.le_of_ble_eq_true rfl) ⟨by decide, by decide⟩ dX11_planLength_1 hT ⟨by decide, by decide⟩ hr2
theorem dX11_planTime_0 : decode cX11_planTime 0 = .ok (.aload_n 0, 1) := by decide +kernel
theorem dX11_planTime_1 : decode cX11_planTime 1 = .ok (.iload_n 1, 1) := by decide +kernel
theorem dX11_planTime_2 : decode cX11_planTime 2 = .ok (.invokevirtual 225, 3) := by decide +kernel
theorem dX11_planTime_5 : decode cX11_planTime 5 = .ok (.aload_n 0, 1) := by decide +kernel
theorem dX11_planTime_6 : decode cX11_planTime 6 = .ok (.invokevirtual 324, 3) := by decide +kernel
theorem dX11_planTime_9 : decode cX11_planTime 9 = .ok (.aload_n 0, 1) := by decide +kernel
theorem dX11_planTime_10 : decode cX11_planTime 10 = .ok (.getfield 26, 3) := by decide +kernel
theorem dX11_planTime_13 : decode cX11_planTime 13 = .ok (.getfield 330, 3) := by decide +kernel
theorem dX11_planTime_16 : decode cX11_planTime 16 = .ok (.iload_n 1, 1) := by decide +kernel
theorem dX11_planTime_17 : decode cX11_planTime 17 = .ok (.iaload, 1) := by decide +kernel
theorem dX11_planTime_18 : decode cX11_planTime 18 = .ok (.ireturn, 1) := by decide +kernel
def f_X11_planTime (N : Nat) (R : Nat → Nat → Nat) (σ : SI) (x0 : Nat) (x1 : Int32) : Option ((Int32 ⊕ Nat) × SI) := bdX (f_X11_needBlast N R σ x0 x1) (fun _ σ2 => bdX (f_X11_findPlan N R σ2 x0) (fun _ σ4 => ck x1 6 (some (.inl (σ4 (R (R x0 2) 2) x1.toNatClampNeg), σ4))))
set_option maxHeartbeats 4000000 in
set_option maxRecDepth 100000 in
theorem ok_X11_planTime {l : Launch} {g : GL} {R : Nat → Nat → Nat} {L : Nat → Nat → Int64} {N : Nat} {σ : SI} {x0 : Nat} {x1 : Int32} {r : ((Int32 ⊕ Nat) × SI)} (h : f_X11_planTime N R σ x0 x1 = some r) (hSh : ShR R) (hx0 : Ok 194 x0 11) : CtX l g 19 yX11_planTime cX11_planTime 2 (some .int) 194 194 2 12 [.ref (gb g + x0), .int x1] (mkS σ R L) (PIX R L r) (PX R L r) := by
  refine vx_ofW (cc := cX11_planTime) (maxL := 2) (ret := (some .int)) (by decide) rfl ?_
  intro p e s m args below meth c s₁ B hml hT hv
  obtain ⟨rfl, hE, hLo, hWd⟩ := hv
  have hr : meth.sig.returnType = (some .int) := B.returns
  have C : Cx l g p s m meth c cX11_planTime 2 RX11 := ⟨B.exec, B.bytes, hml, findClass_of_methodNamed B.named, hE, hLo, B.notSynchronized⟩
  have S : S2 g s σ R L s.heap [] := ⟨hWd, va_S.rf⟩
  have hx := C.1
  have hb := C.2.1
  have hl := lv_entry ([.ref (gb g + x0), .int x1]) (n := 2) (Nat.le_of_ble_eq_true rfl)
  rw [lg_entry_eq]
  generalize (lg_sl ([.ref (gb g + x0), .int x1]) ++ List.replicate (2 - (lg_sl ([.ref (gb g + x0), .int x1])).length) Slot.unset).toArray = ls at hl ⊢
  have hl : lv_has ls 2 [(0, .ref (gb g + x0)), (1, .int x1)] := hl
  generalize hH : s.heap = H at S ⊢
  generalize hlc : ([] : List Loc) = locs at S ⊢
  rw [f_X11_planTime] at h
  refine lv_aload_n hx hb dX11_planTime_0 rfl (lv_at hl 0 rfl) ?_
  refine lv_iload_n hx hb dX11_planTime_1 rfl (lv_at hl 1 rfl) ?_
  rcases bdX_el h with ⟨a2, σ2, hc2, h⟩ | ⟨q2, σ2, hc2, hr2⟩
  · refine x_callXV C S KX11 hx0 (ok_X11_needBlast (L := L) hc2 hSh hx0) ⟨cd_X11_needBlast, ni_RX11, ml_RX11_225, in_X11_needBlast, sl_X11_needBlast⟩ ⟨by decide, by decide⟩ rfl (rm_ok (by decide) (by decide)) hl.1 rfl (Nat.le_of_ble_eq_true rfl) ⟨by decide, by decide⟩ dX11_planTime_2 hT ⟨by decide, by decide⟩ (fun H locs S => ?_)
    refine lv_aload_n hx hb dX11_planTime_5 rfl (lv_at hl 0 rfl) ?_
    rcases bdX_el h with ⟨a4, σ4, hc4, h⟩ | ⟨q4, σ4, hc4, hr4⟩
    · refine x_callXV C S KX11 hx0 (ok_X11_findPlan (L := L) hc4 hSh hx0) ⟨cd_X11_findPlan, ni_RX11, ml_RX11_324, in_X11_findPlan, sl_X11_findPlan⟩ ⟨by decide, by decide⟩ rfl (rm_ok (by decide) (by decide)) hl.1 rfl (Nat.le_of_ble_eq_true rfl) ⟨by decide, by decide⟩ dX11_planTime_6 hT ⟨by decide, by decide⟩ (fun H locs S => ?_)
      refine lv_aload_n hx hb dX11_planTime_9 rfl (lv_at hl 0 rfl) ?_
      have hR5 : Ok 194 (R x0 2) 6 := hSh x0 11 2 6 hx0.1 rfl
      refine x_getR C S KX11 hx0 2 (by decide) rfl rfl fl_RX11_26 hR5 dX11_planTime_10 ?_
      have hR6 : Ok 194 (R (R x0 2) 2) 10006 := hSh (R x0 2) 6 2 10006 hR5.1 rfl
      refine x_getR C S KX6 hR5 2 (by decide) rfl rfl fl_RX11_330 hR6 dX11_planTime_13 ?_
      refine lv_iload_n hx hb dX11_planTime_16 rfl (lv_at hl 1 rfl) ?_
      obtain ⟨hi7, h⟩ := ck_el h
      refine x_iald (len := 6) C S (by decide) hR6 hi7 dX11_planTime_17 ?_
      exact x_iretX C S hr (by decide) (by decide) h dX11_planTime_18
    · exact x_callXX C S KX11 hx0 (ok_X11_findPlan (L := L) hc4 hSh hx0) n_PVX ⟨cd_X11_findPlan, ni_RX11, ml_RX11_324, in_X11_findPlan, sl_X11_findPlan⟩ ⟨by decide, by decide⟩ rfl (rm_ok (by decide) (by decide)) hl.1 rfl (Nat.le_of_ble_eq_true rfl) ⟨by decide, by decide⟩ dX11_planTime_6 hT ⟨by decide, by decide⟩ hr4
  · exact x_callXX C S KX11 hx0 (ok_X11_needBlast (L := L) hc2 hSh hx0) n_PVX ⟨cd_X11_needBlast, ni_RX11, ml_RX11_225, in_X11_needBlast, sl_X11_needBlast⟩ ⟨by decide, by decide⟩ rfl (rm_ok (by decide) (by decide)) hl.1 rfl (Nat.le_of_ble_eq_true rfl) ⟨by decide, by decide⟩ dX11_planTime_2 hT ⟨by decide, by decide⟩ hr2
theorem dX11_applyPlan_0 : decode cX11_applyPlan 0 = .ok (.aload_n 0, 1) := by decide +kernel
theorem dX11_applyPlan_1 : decode cX11_applyPlan 1 = .ok (.invokevirtual 324, 3) := by decide +kernel
theorem dX11_applyPlan_4 : decode cX11_applyPlan 4 = .ok (.aload_n 0, 1) := by decide +kernel
theorem dX11_applyPlan_5 : decode cX11_applyPlan 5 = .ok (.getfield 26, 3) := by decide +kernel
theorem dX11_applyPlan_8 : decode cX11_applyPlan 8 = .ok (.getfield 327, 3) := by decide +kernel
theorem dX11_applyPlan_11 : decode cX11_applyPlan 11 = .ok (.iconst (-1), 1) := by decide +kernel
theorem dX11_applyPlan_12 : decode cX11_applyPlan 12 = .ok (.if_icmp .ne 14, 3) := by decide +kernel
theorem dX11_applyPlan_15 : decode cX11_applyPlan 15 = .ok (.new 257, 3) := by decide +kernel
theorem dX11_applyPlan_18 : decode cX11_applyPlan 18 = .ok (.dup, 1) := by decide +kernel
theorem dX11_applyPlan_19 : decode cX11_applyPlan 19 = .ok (.ldc_w 333, 3) := by decide +kernel
theorem dX11_applyPlan_22 : decode cX11_applyPlan 22 = .ok (.invokespecial 261, 3) := by decide +kernel
theorem dX11_applyPlan_25 : decode cX11_applyPlan 25 = .ok (.athrow, 1) := by decide +kernel
theorem dX11_applyPlan_26 : decode cX11_applyPlan 26 = .ok (.aload_n 0, 1) := by decide +kernel
theorem dX11_applyPlan_27 : decode cX11_applyPlan 27 = .ok (.getfield 61, 3) := by decide +kernel
theorem dX11_applyPlan_30 : decode cX11_applyPlan 30 = .ok (.invokevirtual 335, 3) := by decide +kernel
theorem dX11_applyPlan_33 : decode cX11_applyPlan 33 = .ok (.istore_n 1, 1) := by decide +kernel
theorem dX11_applyPlan_34 : decode cX11_applyPlan 34 = .ok (.aload_n 0, 1) := by decide +kernel
theorem dX11_applyPlan_35 : decode cX11_applyPlan 35 = .ok (.invokevirtual 262, 3) := by decide +kernel
theorem dX11_applyPlan_38 : decode cX11_applyPlan 38 = .ok (.iconst 0, 1) := by decide +kernel
theorem dX11_applyPlan_39 : decode cX11_applyPlan 39 = .ok (.istore_n 2, 1) := by decide +kernel
theorem dX11_applyPlan_40 : decode cX11_applyPlan 40 = .ok (.iload_n 2, 1) := by decide +kernel
theorem dX11_applyPlan_41 : decode cX11_applyPlan 41 = .ok (.aload_n 0, 1) := by decide +kernel
theorem dX11_applyPlan_42 : decode cX11_applyPlan 42 = .ok (.getfield 61, 3) := by decide +kernel
theorem dX11_applyPlan_45 : decode cX11_applyPlan 45 = .ok (.getfield 106, 3) := by decide +kernel
theorem dX11_applyPlan_48 : decode cX11_applyPlan 48 = .ok (.if_icmp .ge 27, 3) := by decide +kernel
theorem dX11_applyPlan_51 : decode cX11_applyPlan 51 = .ok (.aload_n 0, 1) := by decide +kernel
theorem dX11_applyPlan_52 : decode cX11_applyPlan 52 = .ok (.getfield 61, 3) := by decide +kernel
theorem dX11_applyPlan_55 : decode cX11_applyPlan 55 = .ok (.getfield 228, 3) := by decide +kernel
theorem dX11_applyPlan_58 : decode cX11_applyPlan 58 = .ok (.iload_n 2, 1) := by decide +kernel
theorem dX11_applyPlan_59 : decode cX11_applyPlan 59 = .ok (.aload_n 0, 1) := by decide +kernel
theorem dX11_applyPlan_60 : decode cX11_applyPlan 60 = .ok (.getfield 26, 3) := by decide +kernel
theorem dX11_applyPlan_63 : decode cX11_applyPlan 63 = .ok (.getfield 330, 3) := by decide +kernel
theorem dX11_applyPlan_66 : decode cX11_applyPlan 66 = .ok (.iload_n 2, 1) := by decide +kernel
theorem dX11_applyPlan_67 : decode cX11_applyPlan 67 = .ok (.iaload, 1) := by decide +kernel
theorem dX11_applyPlan_68 : decode cX11_applyPlan 68 = .ok (.iastore, 1) := by decide +kernel
theorem dX11_applyPlan_69 : decode cX11_applyPlan 69 = .ok (.iinc 2 1, 3) := by decide +kernel
theorem dX11_applyPlan_72 : decode cX11_applyPlan 72 = .ok (.goto (-32), 3) := by decide +kernel
theorem dX11_applyPlan_75 : decode cX11_applyPlan 75 = .ok (.iload_n 1, 1) := by decide +kernel
theorem dX11_applyPlan_76 : decode cX11_applyPlan 76 = .ok (.ireturn, 1) := by decide +kernel
def f_X11_applyPlan_40 (N : Nat) (R : Nat → Nat → Nat) : Nat → SI → Nat → Int32 → Int32 → Option ((Int32 ⊕ Nat) × SI)
  | 0, _, _, _, _ => none
  | n + 1, σ, x0, x1, x2 => if (σ (R x0 8) 11) ≤ x2 then (some (.inl x1, σ)) else (ck x2 6 (ck x2 6 (sq (up σ (R (R x0 8) 6) x2.toNatClampNeg (σ (R (R x0 2) 2) x2.toNatClampNeg)) (fun σ16 => f_X11_applyPlan_40 N R n σ16 x0 x1 (x2 + 1)))))
def f_X11_applyPlan (N : Nat) (R : Nat → Nat → Nat) (σ : SI) (x0 : Nat) : Option ((Int32 ⊕ Nat) × SI) := bdX (f_X11_findPlan N R σ x0) (fun _ σ2 => if (σ2 (R x0 2) 4) = (-1 : Int32) then (some (.inr 2, σ2)) else (bd (f_X9_openTotal N R σ2 (R x0 8)) (fun a6 σ6 => bd (f_X11_recordAction N R σ6 x0) (fun _ σ7 => f_X11_applyPlan_40 N R N σ7 x0 a6 (0 : Int32)))))
set_option maxHeartbeats 4000000 in
set_option maxRecDepth 100000 in
theorem w_X11_applyPlan_40 {l : Launch} {g : GL} {p : Program} {e : Jvm.Env} {s : State} {m : MethodId} {args : Array Value} {below : List Frame} {meth : Method} {c : Code} {R : Nat → Nat → Nat} {L : Nat → Nat → Int64} {r : ((Int32 ⊕ Nat) × SI)} {N : Nat} (C : Cx l g p s m meth c cX11_applyPlan 3 RX11) (hr : meth.sig.returnType = (some .int)) (hT : ∀ x ∈ c.exceptionTable.toList, False) (hSh : ShR R) : ∀ (n : Nat) (σ : SI) (x0 : Nat) (x1 : Int32) (x2 : Int32), f_X11_applyPlan_40 N R n σ x0 x1 x2 = some r → Ok 194 x0 11 → ∀ (H : Heap) (locs : List Loc) (ls : Array Slot), S2 g s σ R L H locs → lv_has ls 3 [(0, .ref (gb g + x0)), (1, .int x1), (2, .int x2)] → W p l e (rmd 19 2 12) s m args below meth c H locs 1 (6 * 1) (vx_MQ below (Qg g 194 (PIX R L r)) (Xg g 194 (PX R L r)) args s 2 12 (gA g)) (F0 m 40 ls []) := by
  have hx := C.1
  have hb := C.2.1
  intro n
  induction n with
  | zero =>
    intro σ x0 x1 x2 h
    cases (show (none : Option ((Int32 ⊕ Nat) × SI)) = some r from h)
  | succ n ih =>
    intro σ x0 x1 x2 h hx0 H locs ls S hl
    rw [f_X11_applyPlan_40] at h
    refine lv_iload_n hx hb dX11_applyPlan_40 rfl (lv_at hl 2 rfl) ?_
    refine lv_aload_n hx hb dX11_applyPlan_41 rfl (lv_at hl 0 rfl) ?_
    have hR8 : Ok 194 (R x0 8) 9 := hSh x0 11 8 9 hx0.1 rfl
    refine x_getR C S KX11 hx0 8 (by decide) rfl rfl fl_RX11_61 hR8 dX11_applyPlan_42 ?_
    refine x_getI C S KX9 hR8 11 (by decide) rfl rfl fl_RX11_106 dX11_applyPlan_45 ?_
    refine lv_icmp_ge (tgt := 75) hx hb dX11_applyPlan_48 (by decide) (fun c9 => ?_) (fun c9 => ?_)
    · have h := it_p c9 h
      refine lv_iload_n hx hb dX11_applyPlan_75 rfl (lv_at hl 1 rfl) ?_
      exact x_iretX C S hr (by decide) (by decide) h dX11_applyPlan_76
    · have h := it_n c9 h
      refine lv_aload_n hx hb dX11_applyPlan_51 rfl (lv_at hl 0 rfl) ?_
      have hR10 : Ok 194 (R x0 8) 9 := hSh x0 11 8 9 hx0.1 rfl
      refine x_getR C S KX11 hx0 8 (by decide) rfl rfl fl_RX11_61 hR10 dX11_applyPlan_52 ?_
      have hR11 : Ok 194 (R (R x0 8) 6) 10006 := hSh (R x0 8) 9 6 10006 hR10.1 rfl
      refine x_getR C S KX9 hR10 6 (by decide) rfl rfl fl_RX11_228 hR11 dX11_applyPlan_55 ?_
      refine lv_iload_n hx hb dX11_applyPlan_58 rfl (lv_at hl 2 rfl) ?_
      refine lv_aload_n hx hb dX11_applyPlan_59 rfl (lv_at hl 0 rfl) ?_
      have hR12 : Ok 194 (R x0 2) 6 := hSh x0 11 2 6 hx0.1 rfl
      refine x_getR C S KX11 hx0 2 (by decide) rfl rfl fl_RX11_26 hR12 dX11_applyPlan_60 ?_
      have hR13 : Ok 194 (R (R x0 2) 2) 10006 := hSh (R x0 2) 6 2 10006 hR12.1 rfl
      refine x_getR C S KX6 hR12 2 (by decide) rfl rfl fl_RX11_330 hR13 dX11_applyPlan_63 ?_
      refine lv_iload_n hx hb dX11_applyPlan_66 rfl (lv_at hl 2 rfl) ?_
      obtain ⟨hi14, h⟩ := ck_el h
      refine x_iald (len := 6) C S (by decide) hR13 hi14 dX11_applyPlan_67 ?_
      obtain ⟨hi15, h⟩ := ck_el h
      obtain ⟨σ16, hs16, h⟩ := sq_el h
      refine x_iast (len := 6) C S (by decide) hR11 hi15 dX11_applyPlan_68 hs16 (fun H locs S => ?_)
      refine lv_iinc (v := x2 + 1) (lv' := [(2, .int (x2 + 1)), (0, .ref (gb g + x0)), (1, .int x1)]) hx hb dX11_applyPlan_69 hl (k := 2) rfl rfl (by decide) rfl (fun ls hl => ?_)
      refine lv_goto (tgt := 40) hx hb dX11_applyPlan_72 (by decide) ?_
      exact ih σ16 x0 x1 (x2 + 1) h hx0 H locs ls S (lv_sub hl [1, 2, 0] rfl)
set_option maxHeartbeats 4000000 in
set_option maxRecDepth 100000 in
theorem ok_X11_applyPlan {l : Launch} {g : GL} {R : Nat → Nat → Nat} {L : Nat → Nat → Int64} {N : Nat} {σ : SI} {x0 : Nat} {r : ((Int32 ⊕ Nat) × SI)} (h : f_X11_applyPlan N R σ x0 = some r) (hSh : ShR R) (hx0 : Ok 194 x0 11) : CtX l g 19 yX11_applyPlan cX11_applyPlan 3 (some .int) 194 194 2 12 [.ref (gb g + x0)] (mkS σ R L) (PIX R L r) (PX R L r) := by
  refine vx_ofW (cc := cX11_applyPlan) (maxL := 3) (ret := (some .int)) (by decide) rfl ?_
  intro p e s m args below meth c s₁ B hml hT hv
  obtain ⟨rfl, hE, hLo, hWd⟩ := hv
  have hr : meth.sig.returnType = (some .int) := B.returns
  have C : Cx l g p s m meth c cX11_applyPlan 3 RX11 := ⟨B.exec, B.bytes, hml, findClass_of_methodNamed B.named, hE, hLo, B.notSynchronized⟩
  have S : S2 g s σ R L s.heap [] := ⟨hWd, va_S.rf⟩
  have hx := C.1
  have hb := C.2.1
  have hl := lv_entry ([.ref (gb g + x0)]) (n := 3) (Nat.le_of_ble_eq_true rfl)
  rw [lg_entry_eq]
  generalize (lg_sl ([.ref (gb g + x0)]) ++ List.replicate (3 - (lg_sl ([.ref (gb g + x0)])).length) Slot.unset).toArray = ls at hl ⊢
  have hl : lv_has ls 3 [(0, .ref (gb g + x0))] := hl
  generalize hH : s.heap = H at S ⊢
  generalize hlc : ([] : List Loc) = locs at S ⊢
  rw [f_X11_applyPlan] at h
  refine lv_aload_n hx hb dX11_applyPlan_0 rfl (lv_at hl 0 rfl) ?_
  rcases bdX_el h with ⟨a2, σ2, hc2, h⟩ | ⟨q2, σ2, hc2, hr2⟩
  · refine x_callXV C S KX11 hx0 (ok_X11_findPlan (L := L) hc2 hSh hx0) ⟨cd_X11_findPlan, ni_RX11, ml_RX11_324, in_X11_findPlan, sl_X11_findPlan⟩ ⟨by decide, by decide⟩ rfl (rm_ok (by decide) (by decide)) hl.1 rfl (Nat.le_of_ble_eq_true rfl) ⟨by decide, by decide⟩ dX11_applyPlan_1 hT ⟨by decide, by decide⟩ (fun H locs S => ?_)
    refine lv_aload_n hx hb dX11_applyPlan_4 rfl (lv_at hl 0 rfl) ?_
    have hR3 : Ok 194 (R x0 2) 6 := hSh x0 11 2 6 hx0.1 rfl
    refine x_getR C S KX11 hx0 2 (by decide) rfl rfl fl_RX11_26 hR3 dX11_applyPlan_5 ?_
    refine x_getI C S KX6 hR3 4 (by decide) rfl rfl fl_RX11_327 dX11_applyPlan_8 ?_
    refine lv_iconst (v := (-1 : Int32)) hx hb dX11_applyPlan_11 (by decide) ?_
    refine lv_icmp_ne (tgt := 26) hx hb dX11_applyPlan_12 (by decide) (fun c4 => ?_) (fun c4 => ?_)
    · have h := it_n c4 h
      refine lv_aload_n hx hb dX11_applyPlan_26 rfl (lv_at hl 0 rfl) ?_
      have hR5 : Ok 194 (R x0 8) 9 := hSh x0 11 8 9 hx0.1 rfl
      refine x_getR C S KX11 hx0 8 (by decide) rfl rfl fl_RX11_61 hR5 dX11_applyPlan_27 ?_
      obtain ⟨a6, σ6, hc6, h⟩ := bd_el h
      refine x_callVI C S KX9 hR5 (ok_X9_openTotal (L := L) hc6 hSh hR5) ⟨cd_X9_openTotal, ni_RX9, ml_RX11_335, in_X9_openTotal, sl_X9_openTotal⟩ ⟨by decide, by decide⟩ rfl (rm_ok (by decide) (by decide)) hl.1 rfl (Nat.le_of_ble_eq_true rfl) ⟨by decide, by decide⟩ dX11_applyPlan_30 (fun H locs S => ?_)
      refine lv_istore_n (lv' := [(1, .int a6), (0, .ref (gb g + x0))]) hx hb dX11_applyPlan_33 rfl hl (by decide) rfl (fun ls hl => ?_)
      refine lv_aload_n hx hb dX11_applyPlan_34 rfl (lv_at hl 1 rfl) ?_
      obtain ⟨a7, σ7, hc7, h⟩ := bd_el h
      refine x_callVV C S KX11 hx0 (ok_X11_recordAction (L := L) hc7 hSh hx0) ⟨cd_X11_recordAction, ni_RX11, ml_RX11_262, in_X11_recordAction, sl_X11_recordAction⟩ ⟨by decide, by decide⟩ rfl (rm_ok (by decide) (by decide)) hl.1 rfl (Nat.le_of_ble_eq_true rfl) ⟨by decide, by decide⟩ dX11_applyPlan_35 (fun H locs S => ?_)
      refine lv_iconst (v := (0 : Int32)) hx hb dX11_applyPlan_38 (by decide) ?_
      refine lv_istore_n (lv' := [(2, .int (0 : Int32)), (1, .int a6), (0, .ref (gb g + x0))]) hx hb dX11_applyPlan_39 rfl hl (by decide) rfl (fun ls hl => ?_)
      exact w_X11_applyPlan_40 C hr hT hSh N σ7 x0 a6 (0 : Int32) h hx0 H locs ls S (lv_sub hl [2, 1, 0] rfl)
    · have h := it_p c4 h
      exact x_throwW (q := 2) C S (by decide) cl_RX11_257 ni_ex2 (show (RX11, 333, "there is no plan", 25) ∈ strTab by decide) at_RX11_261 hl.1 dX11_applyPlan_15 dX11_applyPlan_18 dX11_applyPlan_19 dX11_applyPlan_22 dX11_applyPlan_25 hT (by decide) (Nat.le_of_ble_eq_true rfl) (by decide) (by decide) (by decide) (by decide) rfl h
  · exact x_callXX C S KX11 hx0 (ok_X11_findPlan (L := L) hc2 hSh hx0) n_PVX ⟨cd_X11_findPlan, ni_RX11, ml_RX11_324, in_X11_findPlan, sl_X11_findPlan⟩ ⟨by decide, by decide⟩ rfl (rm_ok (by decide) (by decide)) hl.1 rfl (Nat.le_of_ble_eq_true rfl) ⟨by decide, by decide⟩ dX11_applyPlan_1 hT ⟨by decide, by decide⟩ hr2
