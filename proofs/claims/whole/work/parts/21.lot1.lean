theorem dX12_windowStart_0 : decode cX12_windowStart 0 = .ok (.aload_n 0, 1) := by decide +kernel
theorem dX12_windowStart_1 : decode cX12_windowStart 1 = .ok (.iconst 0, 1) := by decide +kernel
theorem dX12_windowStart_2 : decode cX12_windowStart 2 = .ok (.putfield 3, 3) := by decide +kernel
theorem dX12_windowStart_5 : decode cX12_windowStart 5 = .ok (.aload_n 0, 1) := by decide +kernel
theorem dX12_windowStart_6 : decode cX12_windowStart 6 = .ok (.iload_n 1, 1) := by decide +kernel
theorem dX12_windowStart_7 : decode cX12_windowStart 7 = .ok (.invokevirtual 198, 3) := by decide +kernel
theorem dX12_windowStart_10 : decode cX12_windowStart 10 = .ok (.ifCond .eq 5, 3) := by decide +kernel
theorem dX12_windowStart_13 : decode cX12_windowStart 13 = .ok (.iconst 0, 1) := by decide +kernel
theorem dX12_windowStart_14 : decode cX12_windowStart 14 = .ok (.ireturn, 1) := by decide +kernel
theorem dX12_windowStart_15 : decode cX12_windowStart 15 = .ok (.aload_n 0, 1) := by decide +kernel
theorem dX12_windowStart_16 : decode cX12_windowStart 16 = .ok (.iload_n 1, 1) := by decide +kernel
theorem dX12_windowStart_17 : decode cX12_windowStart 17 = .ok (.iconst (-1), 1) := by decide +kernel
theorem dX12_windowStart_18 : decode cX12_windowStart 18 = .ok (.invokevirtual 233, 3) := by decide +kernel
theorem dX12_windowStart_21 : decode cX12_windowStart 21 = .ok (.istore_n 2, 1) := by decide +kernel
theorem dX12_windowStart_22 : decode cX12_windowStart 22 = .ok (.iconst (-1), 1) := by decide +kernel
theorem dX12_windowStart_23 : decode cX12_windowStart 23 = .ok (.istore_n 3, 1) := by decide +kernel
theorem dX12_windowStart_24 : decode cX12_windowStart 24 = .ok (.iconst 0, 1) := by decide +kernel
theorem dX12_windowStart_25 : decode cX12_windowStart 25 = .ok (.istore 4, 2) := by decide +kernel
theorem dX12_windowStart_27 : decode cX12_windowStart 27 = .ok (.iload 4, 2) := by decide +kernel
theorem dX12_windowStart_29 : decode cX12_windowStart 29 = .ok (.aload_n 0, 1) := by decide +kernel
theorem dX12_windowStart_30 : decode cX12_windowStart 30 = .ok (.iload_n 1, 1) := by decide +kernel
theorem dX12_windowStart_31 : decode cX12_windowStart 31 = .ok (.invokevirtual 202, 3) := by decide +kernel
theorem dX12_windowStart_34 : decode cX12_windowStart 34 = .ok (.if_icmp .ge 44, 3) := by decide +kernel
theorem dX12_windowStart_37 : decode cX12_windowStart 37 = .ok (.aload_n 0, 1) := by decide +kernel
theorem dX12_windowStart_38 : decode cX12_windowStart 38 = .ok (.iload_n 1, 1) := by decide +kernel
theorem dX12_windowStart_39 : decode cX12_windowStart 39 = .ok (.iload 4, 2) := by decide +kernel
theorem dX12_windowStart_41 : decode cX12_windowStart 41 = .ok (.invokevirtual 212, 3) := by decide +kernel
theorem dX12_windowStart_44 : decode cX12_windowStart 44 = .ok (.istore 5, 2) := by decide +kernel
theorem dX12_windowStart_46 : decode cX12_windowStart 46 = .ok (.aload_n 0, 1) := by decide +kernel
theorem dX12_windowStart_47 : decode cX12_windowStart 47 = .ok (.iload_n 1, 1) := by decide +kernel
theorem dX12_windowStart_48 : decode cX12_windowStart 48 = .ok (.iload 5, 2) := by decide +kernel
theorem dX12_windowStart_50 : decode cX12_windowStart 50 = .ok (.iconst (-1), 1) := by decide +kernel
theorem dX12_windowStart_51 : decode cX12_windowStart 51 = .ok (.invokevirtual 223, 3) := by decide +kernel
theorem dX12_windowStart_54 : decode cX12_windowStart 54 = .ok (.iload_n 2, 1) := by decide +kernel
theorem dX12_windowStart_55 : decode cX12_windowStart 55 = .ok (.if_icmp .ne 17, 3) := by decide +kernel
theorem dX12_windowStart_58 : decode cX12_windowStart 58 = .ok (.iload_n 3, 1) := by decide +kernel
theorem dX12_windowStart_59 : decode cX12_windowStart 59 = .ok (.iconst (-1), 1) := by decide +kernel
theorem dX12_windowStart_60 : decode cX12_windowStart 60 = .ok (.if_icmp .eq 9, 3) := by decide +kernel
theorem dX12_windowStart_63 : decode cX12_windowStart 63 = .ok (.iload 5, 2) := by decide +kernel
theorem dX12_windowStart_65 : decode cX12_windowStart 65 = .ok (.iload_n 3, 1) := by decide +kernel
theorem dX12_windowStart_66 : decode cX12_windowStart 66 = .ok (.if_icmp .ge 6, 3) := by decide +kernel
theorem dX12_windowStart_69 : decode cX12_windowStart 69 = .ok (.iload 5, 2) := by decide +kernel
theorem dX12_windowStart_71 : decode cX12_windowStart 71 = .ok (.istore_n 3, 1) := by decide +kernel
theorem dX12_windowStart_72 : decode cX12_windowStart 72 = .ok (.iinc 4 1, 3) := by decide +kernel
theorem dX12_windowStart_75 : decode cX12_windowStart 75 = .ok (.goto (-48), 3) := by decide +kernel
theorem dX12_windowStart_78 : decode cX12_windowStart 78 = .ok (.iload_n 3, 1) := by decide +kernel
theorem dX12_windowStart_79 : decode cX12_windowStart 79 = .ok (.ireturn, 1) := by decide +kernel
def f_X12_windowStart_72 (N : Nat) (R : Nat → Nat → Nat) (k27 : SI → Nat → Int32 → Int32 → Int32 → Int32 → Option (Int32 × SI)) (σ : SI) (x0 : Nat) (x1 : Int32) (x2 : Int32) (x3 : Int32) (x4 : Int32) : Option (Int32 × SI) := k27 σ x0 x1 x2 x3 (x4 + 1)
def f_X12_windowStart_69 (N : Nat) (R : Nat → Nat → Nat) (k27 : SI → Nat → Int32 → Int32 → Int32 → Int32 → Option (Int32 × SI)) (σ : SI) (x0 : Nat) (x1 : Int32) (x2 : Int32) (x4 : Int32) (x5 : Int32) : Option (Int32 × SI) := f_X12_windowStart_72 N R k27 σ x0 x1 x2 x5 x4
def f_X12_windowStart_27 (N : Nat) (R : Nat → Nat → Nat) : Nat → SI → Nat → Int32 → Int32 → Int32 → Int32 → Option (Int32 × SI)
  | 0, _, _, _, _, _, _ => none
  | n + 1, σ, x0, x1, x2, x3, x4 => bd (f_X12_charges N R σ x0 x1) (fun a5 σ5 => if a5 ≤ x4 then (some (x3, σ5)) else (bd (f_X12_delayOf N R σ5 x0 x1 x4) (fun a7 σ7 => bd (f_X12_windowFrom N R σ7 x0 x1 a7 (-1 : Int32)) (fun a8 σ8 => if a8 = x2 then (if x3 = (-1 : Int32) then (f_X12_windowStart_69 N R (fun σ x0 x1 x2 x3 x4 => f_X12_windowStart_27 N R n σ x0 x1 x2 x3 x4) σ8 x0 x1 x2 x4 a7) else (if x3 ≤ a7 then (f_X12_windowStart_72 N R (fun σ x0 x1 x2 x3 x4 => f_X12_windowStart_27 N R n σ x0 x1 x2 x3 x4) σ8 x0 x1 x2 x3 x4) else (f_X12_windowStart_69 N R (fun σ x0 x1 x2 x3 x4 => f_X12_windowStart_27 N R n σ x0 x1 x2 x3 x4) σ8 x0 x1 x2 x4 a7))) else (f_X12_windowStart_72 N R (fun σ x0 x1 x2 x3 x4 => f_X12_windowStart_27 N R n σ x0 x1 x2 x3 x4) σ8 x0 x1 x2 x3 x4)))))
def f_X12_windowStart (N : Nat) (R : Nat → Nat → Nat) (σ : SI) (x0 : Nat) (x1 : Int32) : Option (Int32 × SI) := sq (up σ x0 0 (0 : Int32)) (fun σ1 => bd (f_X12_noBlast N R σ1 x0 x1) (fun a2 σ2 => if a2 = 0 then (bd (f_X12_window N R σ2 x0 x1 (-1 : Int32)) (fun a4 σ4 => f_X12_windowStart_27 N R N σ4 x0 x1 a4 (-1 : Int32) (0 : Int32))) else (some ((0 : Int32), σ2))))
set_option maxHeartbeats 4000000 in
set_option maxRecDepth 100000 in
theorem w_X12_windowStart_72 {l : Launch} {g : GL} {p : Program} {e : Jvm.Env} {s : State} {m : MethodId} {args : Array Value} {below : List Frame} {meth : Method} {c : Code} {R : Nat → Nat → Nat} {L : Nat → Nat → Int64} {r : (Int32 × SI)} {N : Nat} {k27 : SI → Nat → Int32 → Int32 → Int32 → Int32 → Option (Int32 × SI)} (C : Cx l g p s m meth c cX12_windowStart 6 RX12) (hr : meth.sig.returnType = (some .int)) (hSh : ShR R) (hk27 : ∀ (σ : SI) (x0 : Nat) (x1 : Int32) (x2 : Int32) (x3 : Int32) (x4 : Int32), k27 σ x0 x1 x2 x3 x4 = some r → Ok 194 x0 12 → ∀ (H : Heap) (locs : List Loc) (ls : Array Slot), S2 g s σ R L H locs → lv_has ls 6 [(0, .ref (gb g + x0)), (1, .int x1), (2, .int x2), (3, .int x3), (4, .int x4)] → W p l e (rmd 5 0 0) s m args below meth c H locs 0 0 (MQ below (Qg g 194 (PI R L r)) args s 0 0 (gA g)) (F0 m 27 ls [])) : ∀ (σ : SI) (x0 : Nat) (x1 : Int32) (x2 : Int32) (x3 : Int32) (x4 : Int32), f_X12_windowStart_72 N R k27 σ x0 x1 x2 x3 x4 = some r → Ok 194 x0 12 → ∀ (H : Heap) (locs : List Loc) (ls : Array Slot), S2 g s σ R L H locs → lv_has ls 6 [(0, .ref (gb g + x0)), (1, .int x1), (2, .int x2), (3, .int x3), (4, .int x4)] → W p l e (rmd 5 0 0) s m args below meth c H locs 0 0 (MQ below (Qg g 194 (PI R L r)) args s 0 0 (gA g)) (F0 m 72 ls []) := by
  have hx := C.1
  have hb := C.2.1
  intro σ x0 x1 x2 x3 x4 h hx0 H locs ls S hl
  rw [f_X12_windowStart_72] at h
  refine lv_iinc (v := x4 + 1) (lv' := [(4, .int (x4 + 1)), (0, .ref (gb g + x0)), (1, .int x1), (2, .int x2), (3, .int x3)]) hx hb dX12_windowStart_72 hl (k := 4) rfl rfl (by decide) rfl (fun ls hl => ?_)
  refine lv_goto (tgt := 27) hx hb dX12_windowStart_75 (by decide) ?_
  exact hk27 σ x0 x1 x2 x3 (x4 + 1) h hx0 H locs ls S (lv_sub hl [1, 2, 3, 4, 0] rfl)
set_option maxHeartbeats 4000000 in
set_option maxRecDepth 100000 in
theorem w_X12_windowStart_69 {l : Launch} {g : GL} {p : Program} {e : Jvm.Env} {s : State} {m : MethodId} {args : Array Value} {below : List Frame} {meth : Method} {c : Code} {R : Nat → Nat → Nat} {L : Nat → Nat → Int64} {r : (Int32 × SI)} {N : Nat} {k27 : SI → Nat → Int32 → Int32 → Int32 → Int32 → Option (Int32 × SI)} (C : Cx l g p s m meth c cX12_windowStart 6 RX12) (hr : meth.sig.returnType = (some .int)) (hSh : ShR R) (hk27 : ∀ (σ : SI) (x0 : Nat) (x1 : Int32) (x2 : Int32) (x3 : Int32) (x4 : Int32), k27 σ x0 x1 x2 x3 x4 = some r → Ok 194 x0 12 → ∀ (H : Heap) (locs : List Loc) (ls : Array Slot), S2 g s σ R L H locs → lv_has ls 6 [(0, .ref (gb g + x0)), (1, .int x1), (2, .int x2), (3, .int x3), (4, .int x4)] → W p l e (rmd 5 0 0) s m args below meth c H locs 0 0 (MQ below (Qg g 194 (PI R L r)) args s 0 0 (gA g)) (F0 m 27 ls [])) : ∀ (σ : SI) (x0 : Nat) (x1 : Int32) (x2 : Int32) (x4 : Int32) (x5 : Int32), f_X12_windowStart_69 N R k27 σ x0 x1 x2 x4 x5 = some r → Ok 194 x0 12 → ∀ (H : Heap) (locs : List Loc) (ls : Array Slot), S2 g s σ R L H locs → lv_has ls 6 [(0, .ref (gb g + x0)), (1, .int x1), (2, .int x2), (4, .int x4), (5, .int x5)] → W p l e (rmd 5 0 0) s m args below meth c H locs 0 0 (MQ below (Qg g 194 (PI R L r)) args s 0 0 (gA g)) (F0 m 69 ls []) := by
  have hx := C.1
  have hb := C.2.1
  intro σ x0 x1 x2 x4 x5 h hx0 H locs ls S hl
  rw [f_X12_windowStart_69] at h
  refine lv_iload hx hb dX12_windowStart_69 (lv_at hl 4 rfl) ?_
  refine lv_istore_n (lv' := [(3, .int x5), (0, .ref (gb g + x0)), (1, .int x1), (2, .int x2), (4, .int x4), (5, .int x5)]) hx hb dX12_windowStart_71 rfl hl (by decide) rfl (fun ls hl => ?_)
  exact w_X12_windowStart_72 C hr hSh hk27 σ x0 x1 x2 x5 x4 h hx0 H locs ls S (lv_sub hl [1, 2, 3, 0, 4] rfl)
set_option maxHeartbeats 4000000 in
set_option maxRecDepth 100000 in
theorem w_X12_windowStart_27 {l : Launch} {g : GL} {p : Program} {e : Jvm.Env} {s : State} {m : MethodId} {args : Array Value} {below : List Frame} {meth : Method} {c : Code} {R : Nat → Nat → Nat} {L : Nat → Nat → Int64} {r : (Int32 × SI)} {N : Nat} (C : Cx l g p s m meth c cX12_windowStart 6 RX12) (hr : meth.sig.returnType = (some .int)) (hSh : ShR R) : ∀ (n : Nat) (σ : SI) (x0 : Nat) (x1 : Int32) (x2 : Int32) (x3 : Int32) (x4 : Int32), f_X12_windowStart_27 N R n σ x0 x1 x2 x3 x4 = some r → Ok 194 x0 12 → ∀ (H : Heap) (locs : List Loc) (ls : Array Slot), S2 g s σ R L H locs → lv_has ls 6 [(0, .ref (gb g + x0)), (1, .int x1), (2, .int x2), (3, .int x3), (4, .int x4)] → W p l e (rmd 5 0 0) s m args below meth c H locs 0 0 (MQ below (Qg g 194 (PI R L r)) args s 0 0 (gA g)) (F0 m 27 ls []) := by
  have hx := C.1
  have hb := C.2.1
  intro n
  induction n with
  | zero =>
    intro σ x0 x1 x2 x3 x4 h
    cases (show (none : Option (Int32 × SI)) = some r from h)
  | succ n ih =>
    intro σ x0 x1 x2 x3 x4 h hx0 H locs ls S hl
    rw [f_X12_windowStart_27] at h
    refine lv_iload hx hb dX12_windowStart_27 (lv_at hl 4 rfl) ?_
    refine lv_aload_n hx hb dX12_windowStart_29 rfl (lv_at hl 0 rfl) ?_
    refine lv_iload_n hx hb dX12_windowStart_30 rfl (lv_at hl 1 rfl) ?_
    obtain ⟨a5, σ5, hc5, h⟩ := bd_el h
    refine x_callVI C S KX12 hx0 (ok_X12_charges (L := L) hc5 hSh hx0) ⟨cd_X12_charges, ni_RX12, ml_RX12_202, in_X12_charges, sl_X12_charges⟩ ⟨by decide, by decide⟩ rfl ⟨by decide, by decide⟩ hl.1 rfl (Nat.le_of_ble_eq_true rfl) ⟨by decide, by decide⟩ dX12_windowStart_31 (fun H locs S => ?_)
    refine lv_icmp_ge (tgt := 78) hx hb dX12_windowStart_34 (by decide) (fun c6 => ?_) (fun c6 => ?_)
    · have h := it_p c6 h
      refine lv_iload_n hx hb dX12_windowStart_78 rfl (lv_at hl 3 rfl) ?_
      exact x_iret C S hr h dX12_windowStart_79
    · have h := it_n c6 h
      refine lv_aload_n hx hb dX12_windowStart_37 rfl (lv_at hl 0 rfl) ?_
      refine lv_iload_n hx hb dX12_windowStart_38 rfl (lv_at hl 1 rfl) ?_
      refine lv_iload hx hb dX12_windowStart_39 (lv_at hl 4 rfl) ?_
      obtain ⟨a7, σ7, hc7, h⟩ := bd_el h
      refine x_callVI C S KX12 hx0 (ok_X12_delayOf (L := L) hc7 hSh hx0) ⟨cd_X12_delayOf, ni_RX12, ml_RX12_212, in_X12_delayOf, sl_X12_delayOf⟩ ⟨by decide, by decide⟩ rfl ⟨by decide, by decide⟩ hl.1 rfl (Nat.le_of_ble_eq_true rfl) ⟨by decide, by decide⟩ dX12_windowStart_41 (fun H locs S => ?_)
      refine lv_istore (lv' := [(5, .int a7), (0, .ref (gb g + x0)), (1, .int x1), (2, .int x2), (3, .int x3), (4, .int x4)]) hx hb dX12_windowStart_44 hl (by decide) rfl (fun ls hl => ?_)
      refine lv_aload_n hx hb dX12_windowStart_46 rfl (lv_at hl 1 rfl) ?_
      refine lv_iload_n hx hb dX12_windowStart_47 rfl (lv_at hl 2 rfl) ?_
      refine lv_iload hx hb dX12_windowStart_48 (lv_at hl 0 rfl) ?_
      refine lv_iconst (v := (-1 : Int32)) hx hb dX12_windowStart_50 (by decide) ?_
      obtain ⟨a8, σ8, hc8, h⟩ := bd_el h
      refine x_callVI C S KX12 hx0 (ok_X12_windowFrom (L := L) hc8 hSh hx0) ⟨cd_X12_windowFrom, ni_RX12, ml_RX12_223, in_X12_windowFrom, sl_X12_windowFrom⟩ ⟨by decide, by decide⟩ rfl ⟨by decide, by decide⟩ hl.1 rfl (Nat.le_of_ble_eq_true rfl) ⟨by decide, by decide⟩ dX12_windowStart_51 (fun H locs S => ?_)
      refine lv_iload_n hx hb dX12_windowStart_54 rfl (lv_at hl 3 rfl) ?_
      refine lv_icmp_ne (tgt := 72) hx hb dX12_windowStart_55 (by decide) (fun c9 => ?_) (fun c9 => ?_)
      · have h := it_n c9 h
        exact w_X12_windowStart_72 C hr hSh ih σ8 x0 x1 x2 x3 x4 h hx0 H locs ls S (lv_sub hl [1, 2, 3, 4, 5] rfl)
      · have h := it_p c9 h
        refine lv_iload_n hx hb dX12_windowStart_58 rfl (lv_at hl 4 rfl) ?_
        refine lv_iconst (v := (-1 : Int32)) hx hb dX12_windowStart_59 (by decide) ?_
        refine lv_icmp_eq (tgt := 69) hx hb dX12_windowStart_60 (by decide) (fun c10 => ?_) (fun c10 => ?_)
        · have h := it_p c10 h
          exact w_X12_windowStart_69 C hr hSh ih σ8 x0 x1 x2 x4 a7 h hx0 H locs ls S (lv_sub hl [1, 2, 3, 5, 0] rfl)
        · have h := it_n c10 h
          refine lv_iload hx hb dX12_windowStart_63 (lv_at hl 0 rfl) ?_
          refine lv_iload_n hx hb dX12_windowStart_65 rfl (lv_at hl 4 rfl) ?_
          refine lv_icmp_ge (tgt := 72) hx hb dX12_windowStart_66 (by decide) (fun c11 => ?_) (fun c11 => ?_)
          · have h := it_p c11 h
            exact w_X12_windowStart_72 C hr hSh ih σ8 x0 x1 x2 x3 x4 h hx0 H locs ls S (lv_sub hl [1, 2, 3, 4, 5] rfl)
          · have h := it_n c11 h
            exact w_X12_windowStart_69 C hr hSh ih σ8 x0 x1 x2 x4 a7 h hx0 H locs ls S (lv_sub hl [1, 2, 3, 5, 0] rfl)
set_option maxHeartbeats 4000000 in
set_option maxRecDepth 100000 in
theorem ok_X12_windowStart {l : Launch} {g : GL} {R : Nat → Nat → Nat} {L : Nat → Nat → Int64} {N : Nat} {σ : SI} {x0 : Nat} {x1 : Int32} {r : (Int32 × SI)} (h : f_X12_windowStart N R σ x0 x1 = some r) (hSh : ShR R) (hx0 : Ok 194 x0 12) : Ct l g 5 yX12_windowStart cX12_windowStart 6 (some .int) 194 194 0 0 [.ref (gb g + x0), .int x1] (mkS σ R L) (PI R L r) := by
  refine Met.ofW (cc := cX12_windowStart) (maxL := 6) (ret := (some .int)) (by decide) rfl ?_
  intro p e s m args below meth c s₁ B hml hv
  obtain ⟨rfl, hE, hLo, hWd⟩ := hv
  have hr : meth.sig.returnType = (some .int) := B.returns
  have C : Cx l g p s m meth c cX12_windowStart 6 RX12 := ⟨B.exec, B.bytes, hml, findClass_of_methodNamed B.named, hE, hLo, B.notSynchronized⟩
  have S : S2 g s σ R L s.heap [] := ⟨hWd, va_S.rf⟩
  have hx := C.1
  have hb := C.2.1
  have hl := lv_entry ([.ref (gb g + x0), .int x1]) (n := 6) (Nat.le_of_ble_eq_true rfl)
  rw [lg_entry_eq]
  generalize (lg_sl ([.ref (gb g + x0), .int x1]) ++ List.replicate (6 - (lg_sl ([.ref (gb g + x0), .int x1])).length) Slot.unset).toArray = ls at hl ⊢
  have hl : lv_has ls 6 [(0, .ref (gb g + x0)), (1, .int x1)] := hl
  generalize hH : s.heap = H at S ⊢
  generalize hlc : ([] : List Loc) = locs at S ⊢
  rw [f_X12_windowStart] at h
  refine lv_aload_n hx hb dX12_windowStart_0 rfl (lv_at hl 0 rfl) ?_
  refine lv_iconst (v := (0 : Int32)) hx hb dX12_windowStart_1 (by decide) ?_
  obtain ⟨σ1, hs1, h⟩ := sq_el h
  refine x_putI C S KX12 hx0 0 (by decide) rfl rfl rfl ⟨rfl, rfl⟩ fl_RX12_3 dX12_windowStart_2 hs1 (fun H locs S => ?_)
  refine lv_aload_n hx hb dX12_windowStart_5 rfl (lv_at hl 0 rfl) ?_
  refine lv_iload_n hx hb dX12_windowStart_6 rfl (lv_at hl 1 rfl) ?_
  obtain ⟨a2, σ2, hc2, h⟩ := bd_el h
  refine x_callVI C S KX12 hx0 (ok_X12_noBlast (L := L) hc2 hSh hx0) ⟨cd_X12_noBlast, ni_RX12, ml_RX12_198, in_X12_noBlast, sl_X12_noBlast⟩ ⟨by decide, by decide⟩ rfl ⟨by decide, by decide⟩ hl.1 rfl (Nat.le_of_ble_eq_true rfl) ⟨by decide, by decide⟩ dX12_windowStart_7 (fun H locs S => ?_)
  refine lv_if_eq (tgt := 15) hx hb dX12_windowStart_10 (by decide) (fun c3 => ?_) (fun c3 => ?_)
  · have h := it_p c3 h
    refine lv_aload_n hx hb dX12_windowStart_15 rfl (lv_at hl 0 rfl) ?_
    refine lv_iload_n hx hb dX12_windowStart_16 rfl (lv_at hl 1 rfl) ?_
    refine lv_iconst (v := (-1 : Int32)) hx hb dX12_windowStart_17 (by decide) ?_
    obtain ⟨a4, σ4, hc4, h⟩ := bd_el h
    refine x_callVI C S KX12 hx0 (ok_X12_window (L := L) hc4 hSh hx0) ⟨cd_X12_window, ni_RX12, ml_RX12_233, in_X12_window, sl_X12_window⟩ ⟨by decide, by decide⟩ rfl ⟨by decide, by decide⟩ hl.1 rfl (Nat.le_of_ble_eq_true rfl) ⟨by decide, by decide⟩ dX12_windowStart_18 (fun H locs S => ?_)
    refine lv_istore_n (lv' := [(2, .int a4), (0, .ref (gb g + x0)), (1, .int x1)]) hx hb dX12_windowStart_21 rfl hl (by decide) rfl (fun ls hl => ?_)
    refine lv_iconst (v := (-1 : Int32)) hx hb dX12_windowStart_22 (by decide) ?_
    refine lv_istore_n (lv' := [(3, .int (-1 : Int32)), (2, .int a4), (0, .ref (gb g + x0)), (1, .int x1)]) hx hb dX12_windowStart_23 rfl hl (by decide) rfl (fun ls hl => ?_)
    refine lv_iconst (v := (0 : Int32)) hx hb dX12_windowStart_24 (by decide) ?_
    refine lv_istore (lv' := [(4, .int (0 : Int32)), (3, .int (-1 : Int32)), (2, .int a4), (0, .ref (gb g + x0)), (1, .int x1)]) hx hb dX12_windowStart_25 hl (by decide) rfl (fun ls hl => ?_)
    exact w_X12_windowStart_27 C hr hSh N σ4 x0 x1 a4 (-1 : Int32) (0 : Int32) h hx0 H locs ls S (lv_sub hl [3, 4, 2, 1, 0] rfl)
  · have h := it_n c3 h
    refine lv_iconst (v := (0 : Int32)) hx hb dX12_windowStart_13 (by decide) ?_
    exact x_iret C S hr h dX12_windowStart_14
theorem dX12_vibration_0 : decode cX12_vibration 0 = .ok (.aload_n 0, 1) := by decide +kernel
theorem dX12_vibration_1 : decode cX12_vibration 1 = .ok (.iconst 0, 1) := by decide +kernel
theorem dX12_vibration_2 : decode cX12_vibration 2 = .ok (.putfield 3, 3) := by decide +kernel
theorem dX12_vibration_5 : decode cX12_vibration 5 = .ok (.aload_n 0, 1) := by decide +kernel
theorem dX12_vibration_6 : decode cX12_vibration 6 = .ok (.iload_n 1, 1) := by decide +kernel
theorem dX12_vibration_7 : decode cX12_vibration 7 = .ok (.invokevirtual 198, 3) := by decide +kernel
theorem dX12_vibration_10 : decode cX12_vibration 10 = .ok (.ifCond .ne 11, 3) := by decide +kernel
theorem dX12_vibration_13 : decode cX12_vibration 13 = .ok (.aload_n 0, 1) := by decide +kernel
theorem dX12_vibration_14 : decode cX12_vibration 14 = .ok (.iload_n 2, 1) := by decide +kernel
theorem dX12_vibration_15 : decode cX12_vibration 15 = .ok (.invokevirtual 242, 3) := by decide +kernel
theorem dX12_vibration_18 : decode cX12_vibration 18 = .ok (.ifCond .eq 7, 3) := by decide +kernel
theorem dX12_vibration_21 : decode cX12_vibration 21 = .ok (.iconst 0, 1) := by decide +kernel
theorem dX12_vibration_22 : decode cX12_vibration 22 = .ok (.goto 10, 3) := by decide +kernel
theorem dX12_vibration_25 : decode cX12_vibration 25 = .ok (.aload_n 0, 1) := by decide +kernel
theorem dX12_vibration_26 : decode cX12_vibration 26 = .ok (.iload_n 1, 1) := by decide +kernel
theorem dX12_vibration_27 : decode cX12_vibration 27 = .ok (.iload_n 2, 1) := by decide +kernel
theorem dX12_vibration_28 : decode cX12_vibration 28 = .ok (.iconst (-1), 1) := by decide +kernel
theorem dX12_vibration_29 : decode cX12_vibration 29 = .ok (.invokevirtual 239, 3) := by decide +kernel
theorem dX12_vibration_32 : decode cX12_vibration 32 = .ok (.ireturn, 1) := by decide +kernel
def f_X12_vibration_21 (N : Nat) (R : Nat → Nat → Nat) (σ : SI) : Option (Int32 × SI) := some ((0 : Int32), σ)
def f_X12_vibration (N : Nat) (R : Nat → Nat → Nat) (σ : SI) (x0 : Nat) (x1 : Int32) (x2 : Int32) : Option (Int32 × SI) := sq (up σ x0 0 (0 : Int32)) (fun σ1 => bd (f_X12_noBlast N R σ1 x0 x1) (fun a2 σ2 => if a2 = 0 then (bd (f_X12_noNear N R σ2 x0 x2) (fun a4 σ4 => if a4 = 0 then (bd (f_X12_shakes N R σ4 x0 x1 x2 (-1 : Int32)) (fun a6 σ6 => some (a6, σ6))) else (f_X12_vibration_21 N R σ4))) else (f_X12_vibration_21 N R σ2)))
set_option maxHeartbeats 4000000 in
set_option maxRecDepth 100000 in
theorem w_X12_vibration_21 {l : Launch} {g : GL} {p : Program} {e : Jvm.Env} {s : State} {m : MethodId} {args : Array Value} {below : List Frame} {meth : Method} {c : Code} {R : Nat → Nat → Nat} {L : Nat → Nat → Int64} {r : (Int32 × SI)} {N : Nat} (C : Cx l g p s m meth c cX12_vibration 3 RX12) (hr : meth.sig.returnType = (some .int)) (hSh : ShR R) : ∀ (σ : SI), f_X12_vibration_21 N R σ = some r → ∀ (H : Heap) (locs : List Loc) (ls : Array Slot), S2 g s σ R L H locs → lv_has ls 3 [] → W p l e (rmd 6 0 0) s m args below meth c H locs 0 0 (MQ below (Qg g 194 (PI R L r)) args s 0 0 (gA g)) (F0 m 21 ls []) := by
  have hx := C.1
  have hb := C.2.1
  intro σ h H locs ls S hl
  rw [f_X12_vibration_21] at h
  refine lv_iconst (v := (0 : Int32)) hx hb dX12_vibration_21 (by decide) ?_
  refine lv_goto (tgt := 32) hx hb dX12_vibration_22 (by decide) ?_
  exact x_iret C S hr h dX12_vibration_32
set_option maxHeartbeats 4000000 in
set_option maxRecDepth 100000 in
theorem ok_X12_vibration {l : Launch} {g : GL} {R : Nat → Nat → Nat} {L : Nat → Nat → Int64} {N : Nat} {σ : SI} {x0 : Nat} {x1 : Int32} {x2 : Int32} {r : (Int32 × SI)} (h : f_X12_vibration N R σ x0 x1 x2 = some r) (hSh : ShR R) (hx0 : Ok 194 x0 12) : Ct l g 6 yX12_vibration cX12_vibration 3 (some .int) 194 194 0 0 [.ref (gb g + x0), .int x1, .int x2] (mkS σ R L) (PI R L r) := by
  refine Met.ofW (cc := cX12_vibration) (maxL := 3) (ret := (some .int)) (by decide) rfl ?_
  intro p e s m args below meth c s₁ B hml hv
  obtain ⟨rfl, hE, hLo, hWd⟩ := hv
  have hr : meth.sig.returnType = (some .int) := B.returns
  have C : Cx l g p s m meth c cX12_vibration 3 RX12 := ⟨B.exec, B.bytes, hml, findClass_of_methodNamed B.named, hE, hLo, B.notSynchronized⟩
  have S : S2 g s σ R L s.heap [] := ⟨hWd, va_S.rf⟩
  have hx := C.1
  have hb := C.2.1
  have hl := lv_entry ([.ref (gb g + x0), .int x1, .int x2]) (n := 3) (Nat.le_of_ble_eq_true rfl)
  rw [lg_entry_eq]
  generalize (lg_sl ([.ref (gb g + x0), .int x1, .int x2]) ++ List.replicate (3 - (lg_sl ([.ref (gb g + x0), .int x1, .int x2])).length) Slot.unset).toArray = ls at hl ⊢
  have hl : lv_has ls 3 [(0, .ref (gb g + x0)), (1, .int x1), (2, .int x2)] := hl
  generalize hH : s.heap = H at S ⊢
  generalize hlc : ([] : List Loc) = locs at S ⊢
  rw [f_X12_vibration] at h
  refine lv_aload_n hx hb dX12_vibration_0 rfl (lv_at hl 0 rfl) ?_
  refine lv_iconst (v := (0 : Int32)) hx hb dX12_vibration_1 (by decide) ?_
  obtain ⟨σ1, hs1, h⟩ := sq_el h
  refine x_putI C S KX12 hx0 0 (by decide) rfl rfl rfl ⟨rfl, rfl⟩ fl_RX12_3 dX12_vibration_2 hs1 (fun H locs S => ?_)
  refine lv_aload_n hx hb dX12_vibration_5 rfl (lv_at hl 0 rfl) ?_
  refine lv_iload_n hx hb dX12_vibration_6 rfl (lv_at hl 1 rfl) ?_
  obtain ⟨a2, σ2, hc2, h⟩ := bd_el h
  refine x_callVI C S KX12 hx0 (ok_X12_noBlast (L := L) hc2 hSh hx0) ⟨cd_X12_noBlast, ni_RX12, ml_RX12_198, in_X12_noBlast, sl_X12_noBlast⟩ ⟨by decide, by decide⟩ rfl ⟨by decide, by decide⟩ hl.1 rfl (Nat.le_of_ble_eq_true rfl) ⟨by decide, by decide⟩ dX12_vibration_7 (fun H locs S => ?_)
  refine lv_if_ne (tgt := 21) hx hb dX12_vibration_10 (by decide) (fun c3 => ?_) (fun c3 => ?_)
  · have h := it_n c3 h
    exact w_X12_vibration_21 C hr hSh σ2 h H locs ls S (lv_sub hl [] rfl)
  · have h := it_p c3 h
    refine lv_aload_n hx hb dX12_vibration_13 rfl (lv_at hl 0 rfl) ?_
    refine lv_iload_n hx hb dX12_vibration_14 rfl (lv_at hl 2 rfl) ?_
    obtain ⟨a4, σ4, hc4, h⟩ := bd_el h
    refine x_callVI C S KX12 hx0 (ok_X12_noNear (L := L) hc4 hSh hx0) ⟨cd_X12_noNear, ni_RX12, ml_RX12_242, in_X12_noNear, sl_X12_noNear⟩ ⟨by decide, by decide⟩ rfl ⟨by decide, by decide⟩ hl.1 rfl (Nat.le_of_ble_eq_true rfl) ⟨by decide, by decide⟩ dX12_vibration_15 (fun H locs S => ?_)
    refine lv_if_eq (tgt := 25) hx hb dX12_vibration_18 (by decide) (fun c5 => ?_) (fun c5 => ?_)
    · have h := it_p c5 h
      refine lv_aload_n hx hb dX12_vibration_25 rfl (lv_at hl 0 rfl) ?_
      refine lv_iload_n hx hb dX12_vibration_26 rfl (lv_at hl 1 rfl) ?_
      refine lv_iload_n hx hb dX12_vibration_27 rfl (lv_at hl 2 rfl) ?_
      refine lv_iconst (v := (-1 : Int32)) hx hb dX12_vibration_28 (by decide) ?_
      obtain ⟨a6, σ6, hc6, h⟩ := bd_el h
      refine x_callVI C S KX12 hx0 (ok_X12_shakes (L := L) hc6 hSh hx0) ⟨cd_X12_shakes, ni_RX12, ml_RX12_239, in_X12_shakes, sl_X12_shakes⟩ ⟨by decide, by decide⟩ rfl ⟨by decide, by decide⟩ hl.1 rfl (Nat.le_of_ble_eq_true rfl) ⟨by decide, by decide⟩ dX12_vibration_29 (fun H locs S => ?_)
      exact x_iret C S hr h dX12_vibration_32
    · have h := it_n c5 h
      exact w_X12_vibration_21 C hr hSh σ4 h H locs ls S (lv_sub hl [] rfl)
theorem dX12_mostShaken_0 : decode cX12_mostShaken 0 = .ok (.aload_n 0, 1) := by decide +kernel
theorem dX12_mostShaken_1 : decode cX12_mostShaken 1 = .ok (.iconst 0, 1) := by decide +kernel
theorem dX12_mostShaken_2 : decode cX12_mostShaken 2 = .ok (.putfield 3, 3) := by decide +kernel
theorem dX12_mostShaken_5 : decode cX12_mostShaken 5 = .ok (.aload_n 0, 1) := by decide +kernel
theorem dX12_mostShaken_6 : decode cX12_mostShaken 6 = .ok (.iload_n 1, 1) := by decide +kernel
theorem dX12_mostShaken_7 : decode cX12_mostShaken 7 = .ok (.invokevirtual 198, 3) := by decide +kernel
theorem dX12_mostShaken_10 : decode cX12_mostShaken 10 = .ok (.ifCond .eq 5, 3) := by decide +kernel
theorem dX12_mostShaken_13 : decode cX12_mostShaken 13 = .ok (.iconst 0, 1) := by decide +kernel
theorem dX12_mostShaken_14 : decode cX12_mostShaken 14 = .ok (.ireturn, 1) := by decide +kernel
theorem dX12_mostShaken_15 : decode cX12_mostShaken 15 = .ok (.iconst (-1), 1) := by decide +kernel
theorem dX12_mostShaken_16 : decode cX12_mostShaken 16 = .ok (.istore_n 2, 1) := by decide +kernel
theorem dX12_mostShaken_17 : decode cX12_mostShaken 17 = .ok (.iconst 0, 1) := by decide +kernel
theorem dX12_mostShaken_18 : decode cX12_mostShaken 18 = .ok (.istore_n 3, 1) := by decide +kernel
theorem dX12_mostShaken_19 : decode cX12_mostShaken 19 = .ok (.iload_n 3, 1) := by decide +kernel
theorem dX12_mostShaken_20 : decode cX12_mostShaken 20 = .ok (.aload_n 0, 1) := by decide +kernel
theorem dX12_mostShaken_21 : decode cX12_mostShaken 21 = .ok (.getfield 88, 3) := by decide +kernel
theorem dX12_mostShaken_24 : decode cX12_mostShaken 24 = .ok (.iconst 0, 1) := by decide +kernel
theorem dX12_mostShaken_25 : decode cX12_mostShaken 25 = .ok (.iaload, 1) := by decide +kernel
theorem dX12_mostShaken_26 : decode cX12_mostShaken 26 = .ok (.if_icmp .ge 33, 3) := by decide +kernel
theorem dX12_mostShaken_29 : decode cX12_mostShaken 29 = .ok (.iload_n 2, 1) := by decide +kernel
theorem dX12_mostShaken_30 : decode cX12_mostShaken 30 = .ok (.iconst (-1), 1) := by decide +kernel
theorem dX12_mostShaken_31 : decode cX12_mostShaken 31 = .ok (.if_icmp .eq 20, 3) := by decide +kernel
theorem dX12_mostShaken_34 : decode cX12_mostShaken 34 = .ok (.aload_n 0, 1) := by decide +kernel
theorem dX12_mostShaken_35 : decode cX12_mostShaken 35 = .ok (.iload_n 1, 1) := by decide +kernel
theorem dX12_mostShaken_36 : decode cX12_mostShaken 36 = .ok (.iload_n 3, 1) := by decide +kernel
theorem dX12_mostShaken_37 : decode cX12_mostShaken 37 = .ok (.iconst (-1), 1) := by decide +kernel
theorem dX12_mostShaken_38 : decode cX12_mostShaken 38 = .ok (.invokevirtual 239, 3) := by decide +kernel
theorem dX12_mostShaken_41 : decode cX12_mostShaken 41 = .ok (.aload_n 0, 1) := by decide +kernel
theorem dX12_mostShaken_42 : decode cX12_mostShaken 42 = .ok (.iload_n 1, 1) := by decide +kernel
theorem dX12_mostShaken_43 : decode cX12_mostShaken 43 = .ok (.iload_n 2, 1) := by decide +kernel
theorem dX12_mostShaken_44 : decode cX12_mostShaken 44 = .ok (.iconst (-1), 1) := by decide +kernel
theorem dX12_mostShaken_45 : decode cX12_mostShaken 45 = .ok (.invokevirtual 239, 3) := by decide +kernel
theorem dX12_mostShaken_48 : decode cX12_mostShaken 48 = .ok (.if_icmp .le 5, 3) := by decide +kernel
theorem dX12_mostShaken_51 : decode cX12_mostShaken 51 = .ok (.iload_n 3, 1) := by decide +kernel
theorem dX12_mostShaken_52 : decode cX12_mostShaken 52 = .ok (.istore_n 2, 1) := by decide +kernel
theorem dX12_mostShaken_53 : decode cX12_mostShaken 53 = .ok (.iinc 3 1, 3) := by decide +kernel
theorem dX12_mostShaken_56 : decode cX12_mostShaken 56 = .ok (.goto (-37), 3) := by decide +kernel
theorem dX12_mostShaken_59 : decode cX12_mostShaken 59 = .ok (.iload_n 2, 1) := by decide +kernel
theorem dX12_mostShaken_60 : decode cX12_mostShaken 60 = .ok (.ireturn, 1) := by decide +kernel
def f_X12_mostShaken_53 (N : Nat) (R : Nat → Nat → Nat) (k19 : SI → Nat → Int32 → Int32 → Int32 → Option (Int32 × SI)) (σ : SI) (x0 : Nat) (x1 : Int32) (x2 : Int32) (x3 : Int32) : Option (Int32 × SI) := k19 σ x0 x1 x2 (x3 + 1)
def f_X12_mostShaken_51 (N : Nat) (R : Nat → Nat → Nat) (k19 : SI → Nat → Int32 → Int32 → Int32 → Option (Int32 × SI)) (σ : SI) (x0 : Nat) (x1 : Int32) (x3 : Int32) : Option (Int32 × SI) := f_X12_mostShaken_53 N R k19 σ x0 x1 x3 x3
def f_X12_mostShaken_19 (N : Nat) (R : Nat → Nat → Nat) : Nat → SI → Nat → Int32 → Int32 → Int32 → Option (Int32 × SI)
  | 0, _, _, _, _, _ => none
  | n + 1, σ, x0, x1, x2, x3 => ck (0 : Int32) 417 (if (σ (R x0 11) (0 : Int32).toNatClampNeg) ≤ x3 then (some (x2, σ)) else (if x2 = (-1 : Int32) then (f_X12_mostShaken_51 N R (fun σ x0 x1 x2 x3 => f_X12_mostShaken_19 N R n σ x0 x1 x2 x3) σ x0 x1 x3) else (bd (f_X12_shakes N R σ x0 x1 x3 (-1 : Int32)) (fun a8 σ8 => bd (f_X12_shakes N R σ8 x0 x1 x2 (-1 : Int32)) (fun a9 σ9 => if a8 ≤ a9 then (f_X12_mostShaken_53 N R (fun σ x0 x1 x2 x3 => f_X12_mostShaken_19 N R n σ x0 x1 x2 x3) σ9 x0 x1 x2 x3) else (f_X12_mostShaken_51 N R (fun σ x0 x1 x2 x3 => f_X12_mostShaken_19 N R n σ x0 x1 x2 x3) σ9 x0 x1 x3))))))
def f_X12_mostShaken (N : Nat) (R : Nat → Nat → Nat) (σ : SI) (x0 : Nat) (x1 : Int32) : Option (Int32 × SI) := sq (up σ x0 0 (0 : Int32)) (fun σ1 => bd (f_X12_noBlast N R σ1 x0 x1) (fun a2 σ2 => if a2 = 0 then (f_X12_mostShaken_19 N R N σ2 x0 x1 (-1 : Int32) (0 : Int32)) else (some ((0 : Int32), σ2))))
set_option maxHeartbeats 4000000 in
set_option maxRecDepth 100000 in
theorem w_X12_mostShaken_53 {l : Launch} {g : GL} {p : Program} {e : Jvm.Env} {s : State} {m : MethodId} {args : Array Value} {below : List Frame} {meth : Method} {c : Code} {R : Nat → Nat → Nat} {L : Nat → Nat → Int64} {r : (Int32 × SI)} {N : Nat} {k19 : SI → Nat → Int32 → Int32 → Int32 → Option (Int32 × SI)} (C : Cx l g p s m meth c cX12_mostShaken 4 RX12) (hr : meth.sig.returnType = (some .int)) (hSh : ShR R) (hk19 : ∀ (σ : SI) (x0 : Nat) (x1 : Int32) (x2 : Int32) (x3 : Int32), k19 σ x0 x1 x2 x3 = some r → Ok 194 x0 12 → ∀ (H : Heap) (locs : List Loc) (ls : Array Slot), S2 g s σ R L H locs → lv_has ls 4 [(0, .ref (gb g + x0)), (1, .int x1), (2, .int x2), (3, .int x3)] → W p l e (rmd 6 0 0) s m args below meth c H locs 0 0 (MQ below (Qg g 194 (PI R L r)) args s 0 0 (gA g)) (F0 m 19 ls [])) : ∀ (σ : SI) (x0 : Nat) (x1 : Int32) (x2 : Int32) (x3 : Int32), f_X12_mostShaken_53 N R k19 σ x0 x1 x2 x3 = some r → Ok 194 x0 12 → ∀ (H : Heap) (locs : List Loc) (ls : Array Slot), S2 g s σ R L H locs → lv_has ls 4 [(0, .ref (gb g + x0)), (1, .int x1), (2, .int x2), (3, .int x3)] → W p l e (rmd 6 0 0) s m args below meth c H locs 0 0 (MQ below (Qg g 194 (PI R L r)) args s 0 0 (gA g)) (F0 m 53 ls []) := by
  have hx := C.1
  have hb := C.2.1
  intro σ x0 x1 x2 x3 h hx0 H locs ls S hl
  rw [f_X12_mostShaken_53] at h
  refine lv_iinc (v := x3 + 1) (lv' := [(3, .int (x3 + 1)), (0, .ref (gb g + x0)), (1, .int x1), (2, .int x2)]) hx hb dX12_mostShaken_53 hl (k := 3) rfl rfl (by decide) rfl (fun ls hl => ?_)
  refine lv_goto (tgt := 19) hx hb dX12_mostShaken_56 (by decide) ?_
  exact hk19 σ x0 x1 x2 (x3 + 1) h hx0 H locs ls S (lv_sub hl [1, 2, 3, 0] rfl)
set_option maxHeartbeats 4000000 in
set_option maxRecDepth 100000 in
theorem w_X12_mostShaken_51 {l : Launch} {g : GL} {p : Program} {e : Jvm.Env} {s : State} {m : MethodId} {args : Array Value} {below : List Frame} {meth : Method} {c : Code} {R : Nat → Nat → Nat} {L : Nat → Nat → Int64} {r : (Int32 × SI)} {N : Nat} {k19 : SI → Nat → Int32 → Int32 → Int32 → Option (Int32 × SI)} (C : Cx l g p s m meth c cX12_mostShaken 4 RX12) (hr : meth.sig.returnType = (some .int)) (hSh : ShR R) (hk19 : ∀ (σ : SI) (x0 : Nat) (x1 : Int32) (x2 : Int32) (x3 : Int32), k19 σ x0 x1 x2 x3 = some r → Ok 194 x0 12 → ∀ (H : Heap) (locs : List Loc) (ls : Array Slot), S2 g s σ R L H locs → lv_has ls 4 [(0, .ref (gb g + x0)), (1, .int x1), (2, .int x2), (3, .int x3)] → W p l e (rmd 6 0 0) s m args below meth c H locs 0 0 (MQ below (Qg g 194 (PI R L r)) args s 0 0 (gA g)) (F0 m 19 ls [])) : ∀ (σ : SI) (x0 : Nat) (x1 : Int32) (x3 : Int32), f_X12_mostShaken_51 N R k19 σ x0 x1 x3 = some r → Ok 194 x0 12 → ∀ (H : Heap) (locs : List Loc) (ls : Array Slot), S2 g s σ R L H locs → lv_has ls 4 [(0, .ref (gb g + x0)), (1, .int x1), (3, .int x3)] → W p l e (rmd 6 0 0) s m args below meth c H locs 0 0 (MQ below (Qg g 194 (PI R L r)) args s 0 0 (gA g)) (F0 m 51 ls []) := by
  have hx := C.1
  have hb := C.2.1
  intro σ x0 x1 x3 h hx0 H locs ls S hl
  rw [f_X12_mostShaken_51] at h
  refine lv_iload_n hx hb dX12_mostShaken_51 rfl (lv_at hl 2 rfl) ?_
  refine lv_istore_n (lv' := [(2, .int x3), (0, .ref (gb g + x0)), (1, .int x1), (3, .int x3)]) hx hb dX12_mostShaken_52 rfl hl (by decide) rfl (fun ls hl => ?_)
  exact w_X12_mostShaken_53 C hr hSh hk19 σ x0 x1 x3 x3 h hx0 H locs ls S (lv_sub hl [1, 2, 0, 3] rfl)
set_option maxHeartbeats 4000000 in
set_option maxRecDepth 100000 in
theorem w_X12_mostShaken_19 {l : Launch} {g : GL} {p : Program} {e : Jvm.Env} {s : State} {m : MethodId} {args : Array Value} {below : List Frame} {meth : Method} {c : Code} {R : Nat → Nat → Nat} {L : Nat → Nat → Int64} {r : (Int32 × SI)} {N : Nat} (C : Cx l g p s m meth c cX12_mostShaken 4 RX12) (hr : meth.sig.returnType = (some .int)) (hSh : ShR R) : ∀ (n : Nat) (σ : SI) (x0 : Nat) (x1 : Int32) (x2 : Int32) (x3 : Int32), f_X12_mostShaken_19 N R n σ x0 x1 x2 x3 = some r → Ok 194 x0 12 → ∀ (H : Heap) (locs : List Loc) (ls : Array Slot), S2 g s σ R L H locs → lv_has ls 4 [(0, .ref (gb g + x0)), (1, .int x1), (2, .int x2), (3, .int x3)] → W p l e (rmd 6 0 0) s m args below meth c H locs 0 0 (MQ below (Qg g 194 (PI R L r)) args s 0 0 (gA g)) (F0 m 19 ls []) := by
  have hx := C.1
  have hb := C.2.1
  intro n
  induction n with
  | zero =>
    intro σ x0 x1 x2 x3 h
    cases (show (none : Option (Int32 × SI)) = some r from h)
  | succ n ih =>
    intro σ x0 x1 x2 x3 h hx0 H locs ls S hl
    rw [f_X12_mostShaken_19] at h
    refine lv_iload_n hx hb dX12_mostShaken_19 rfl (lv_at hl 3 rfl) ?_
    refine lv_aload_n hx hb dX12_mostShaken_20 rfl (lv_at hl 0 rfl) ?_
    have hR4 : Ok 194 (R x0 11) 10417 := hSh x0 12 11 10417 hx0.1 rfl
    refine x_getR C S KX12 hx0 11 (by decide) rfl rfl fl_RX12_88 hR4 dX12_mostShaken_21 ?_
    refine lv_iconst (v := (0 : Int32)) hx hb dX12_mostShaken_24 (by decide) ?_
    obtain ⟨hi5, h⟩ := ck_el h
    refine x_iald (len := 417) C S (by decide) hR4 hi5 dX12_mostShaken_25 ?_
    refine lv_icmp_ge (tgt := 59) hx hb dX12_mostShaken_26 (by decide) (fun c6 => ?_) (fun c6 => ?_)
    · have h := it_p c6 h
      refine lv_iload_n hx hb dX12_mostShaken_59 rfl (lv_at hl 2 rfl) ?_
      exact x_iret C S hr h dX12_mostShaken_60
    · have h := it_n c6 h
      refine lv_iload_n hx hb dX12_mostShaken_29 rfl (lv_at hl 2 rfl) ?_
      refine lv_iconst (v := (-1 : Int32)) hx hb dX12_mostShaken_30 (by decide) ?_
      refine lv_icmp_eq (tgt := 51) hx hb dX12_mostShaken_31 (by decide) (fun c7 => ?_) (fun c7 => ?_)
      · have h := it_p c7 h
        exact w_X12_mostShaken_51 C hr hSh ih σ x0 x1 x3 h hx0 H locs ls S (lv_sub hl [0, 1, 3] rfl)
      · have h := it_n c7 h
        refine lv_aload_n hx hb dX12_mostShaken_34 rfl (lv_at hl 0 rfl) ?_
        refine lv_iload_n hx hb dX12_mostShaken_35 rfl (lv_at hl 1 rfl) ?_
        refine lv_iload_n hx hb dX12_mostShaken_36 rfl (lv_at hl 3 rfl) ?_
        refine lv_iconst (v := (-1 : Int32)) hx hb dX12_mostShaken_37 (by decide) ?_
        obtain ⟨a8, σ8, hc8, h⟩ := bd_el h
        refine x_callVI C S KX12 hx0 (ok_X12_shakes (L := L) hc8 hSh hx0) ⟨cd_X12_shakes, ni_RX12, ml_RX12_239, in_X12_shakes, sl_X12_shakes⟩ ⟨by decide, by decide⟩ rfl ⟨by decide, by decide⟩ hl.1 rfl (Nat.le_of_ble_eq_true rfl) ⟨by decide, by decide⟩ dX12_mostShaken_38 (fun H locs S => ?_)
        refine lv_aload_n hx hb dX12_mostShaken_41 rfl (lv_at hl 0 rfl) ?_
        refine lv_iload_n hx hb dX12_mostShaken_42 rfl (lv_at hl 1 rfl) ?_
        refine lv_iload_n hx hb dX12_mostShaken_43 rfl (lv_at hl 2 rfl) ?_
        refine lv_iconst (v := (-1 : Int32)) hx hb dX12_mostShaken_44 (by decide) ?_
        obtain ⟨a9, σ9, hc9, h⟩ := bd_el h
        refine x_callVI C S KX12 hx0 (ok_X12_shakes (L := L) hc9 hSh hx0) ⟨cd_X12_shakes, ni_RX12, ml_RX12_239, in_X12_shakes, sl_X12_shakes⟩ ⟨by decide, by decide⟩ rfl ⟨by decide, by decide⟩ hl.1 rfl (Nat.le_of_ble_eq_true rfl) ⟨by decide, by decide⟩ dX12_mostShaken_45 (fun H locs S => ?_)
        refine lv_icmp_le (tgt := 53) hx hb dX12_mostShaken_48 (by decide) (fun c10 => ?_) (fun c10 => ?_)
        · have h := it_p c10 h
          exact w_X12_mostShaken_53 C hr hSh ih σ9 x0 x1 x2 x3 h hx0 H locs ls S (lv_sub hl [0, 1, 2, 3] rfl)
        · have h := it_n c10 h
          exact w_X12_mostShaken_51 C hr hSh ih σ9 x0 x1 x3 h hx0 H locs ls S (lv_sub hl [0, 1, 3] rfl)
set_option maxHeartbeats 4000000 in
set_option maxRecDepth 100000 in
theorem ok_X12_mostShaken {l : Launch} {g : GL} {R : Nat → Nat → Nat} {L : Nat → Nat → Int64} {N : Nat} {σ : SI} {x0 : Nat} {x1 : Int32} {r : (Int32 × SI)} (h : f_X12_mostShaken N R σ x0 x1 = some r) (hSh : ShR R) (hx0 : Ok 194 x0 12) : Ct l g 6 yX12_mostShaken cX12_mostShaken 4 (some .int) 194 194 0 0 [.ref (gb g + x0), .int x1] (mkS σ R L) (PI R L r) := by
  refine Met.ofW (cc := cX12_mostShaken) (maxL := 4) (ret := (some .int)) (by decide) rfl ?_
  intro p e s m args below meth c s₁ B hml hv
  obtain ⟨rfl, hE, hLo, hWd⟩ := hv
  have hr : meth.sig.returnType = (some .int) := B.returns
  have C : Cx l g p s m meth c cX12_mostShaken 4 RX12 := ⟨B.exec, B.bytes, hml, findClass_of_methodNamed B.named, hE, hLo, B.notSynchronized⟩
  have S : S2 g s σ R L s.heap [] := ⟨hWd, va_S.rf⟩
  have hx := C.1
  have hb := C.2.1
  have hl := lv_entry ([.ref (gb g + x0), .int x1]) (n := 4) (Nat.le_of_ble_eq_true rfl)
  rw [lg_entry_eq]
  generalize (lg_sl ([.ref (gb g + x0), .int x1]) ++ List.replicate (4 - (lg_sl ([.ref (gb g + x0), .int x1])).length) Slot.unset).toArray = ls at hl ⊢
  have hl : lv_has ls 4 [(0, .ref (gb g + x0)), (1, .int x1)] := hl
  generalize hH : s.heap = H at S ⊢
  generalize hlc : ([] : List Loc) = locs at S ⊢
  rw [f_X12_mostShaken] at h
  refine lv_aload_n hx hb dX12_mostShaken_0 rfl (lv_at hl 0 rfl) ?_
  refine lv_iconst (v := (0 : Int32)) hx hb dX12_mostShaken_1 (by decide) ?_
  obtain ⟨σ1, hs1, h⟩ := sq_el h
  refine x_putI C S KX12 hx0 0 (by decide) rfl rfl rfl ⟨rfl, rfl⟩ fl_RX12_3 dX12_mostShaken_2 hs1 (fun H locs S => ?_)
  refine lv_aload_n hx hb dX12_mostShaken_5 rfl (lv_at hl 0 rfl) ?_
  refine lv_iload_n hx hb dX12_mostShaken_6 rfl (lv_at hl 1 rfl) ?_
  obtain ⟨a2, σ2, hc2, h⟩ := bd_el h
  refine x_callVI C S KX12 hx0 (ok_X12_noBlast (L := L) hc2 hSh hx0) ⟨cd_X12_noBlast, ni_RX12, ml_RX12_198, in_X12_noBlast, sl_X12_noBlast⟩ ⟨by decide, by decide⟩ rfl ⟨by decide, by decide⟩ hl.1 rfl (Nat.le_of_ble_eq_true rfl) ⟨by decide, by decide⟩ dX12_mostShaken_7 (fun H locs S => ?_)
  refine lv_if_eq (tgt := 15) hx hb dX12_mostShaken_10 (by decide) (fun c3 => ?_) (fun c3 => ?_)
  · have h := it_p c3 h
    refine lv_iconst (v := (-1 : Int32)) hx hb dX12_mostShaken_15 (by decide) ?_
    refine lv_istore_n (lv' := [(2, .int (-1 : Int32)), (0, .ref (gb g + x0)), (1, .int x1)]) hx hb dX12_mostShaken_16 rfl hl (by decide) rfl (fun ls hl => ?_)
    refine lv_iconst (v := (0 : Int32)) hx hb dX12_mostShaken_17 (by decide) ?_
    refine lv_istore_n (lv' := [(3, .int (0 : Int32)), (2, .int (-1 : Int32)), (0, .ref (gb g + x0)), (1, .int x1)]) hx hb dX12_mostShaken_18 rfl hl (by decide) rfl (fun ls hl => ?_)
    exact w_X12_mostShaken_19 C hr hSh N σ2 x0 x1 (-1 : Int32) (0 : Int32) h hx0 H locs ls S (lv_sub hl [2, 3, 1, 0] rfl)
  · have h := it_n c3 h
    refine lv_iconst (v := (0 : Int32)) hx hb dX12_mostShaken_13 (by decide) ?_
    exact x_iret C S hr h dX12_mostShaken_14
theorem dX12_tooStrongAt_0 : decode cX12_tooStrongAt 0 = .ok (.aload_n 0, 1) := by decide +kernel
theorem dX12_tooStrongAt_1 : decode cX12_tooStrongAt 1 = .ok (.iconst 0, 1) := by decide +kernel
theorem dX12_tooStrongAt_2 : decode cX12_tooStrongAt 2 = .ok (.putfield 3, 3) := by decide +kernel
theorem dX12_tooStrongAt_5 : decode cX12_tooStrongAt 5 = .ok (.aload_n 0, 1) := by decide +kernel
theorem dX12_tooStrongAt_6 : decode cX12_tooStrongAt 6 = .ok (.iload_n 1, 1) := by decide +kernel
theorem dX12_tooStrongAt_7 : decode cX12_tooStrongAt 7 = .ok (.invokevirtual 198, 3) := by decide +kernel
theorem dX12_tooStrongAt_10 : decode cX12_tooStrongAt 10 = .ok (.ifCond .eq 5, 3) := by decide +kernel
theorem dX12_tooStrongAt_13 : decode cX12_tooStrongAt 13 = .ok (.iconst 0, 1) := by decide +kernel
theorem dX12_tooStrongAt_14 : decode cX12_tooStrongAt 14 = .ok (.ireturn, 1) := by decide +kernel
theorem dX12_tooStrongAt_15 : decode cX12_tooStrongAt 15 = .ok (.iconst 0, 1) := by decide +kernel
theorem dX12_tooStrongAt_16 : decode cX12_tooStrongAt 16 = .ok (.istore_n 2, 1) := by decide +kernel
theorem dX12_tooStrongAt_17 : decode cX12_tooStrongAt 17 = .ok (.iconst 0, 1) := by decide +kernel
theorem dX12_tooStrongAt_18 : decode cX12_tooStrongAt 18 = .ok (.istore_n 3, 1) := by decide +kernel
theorem dX12_tooStrongAt_19 : decode cX12_tooStrongAt 19 = .ok (.iload_n 3, 1) := by decide +kernel
theorem dX12_tooStrongAt_20 : decode cX12_tooStrongAt 20 = .ok (.aload_n 0, 1) := by decide +kernel
theorem dX12_tooStrongAt_21 : decode cX12_tooStrongAt 21 = .ok (.getfield 88, 3) := by decide +kernel
theorem dX12_tooStrongAt_24 : decode cX12_tooStrongAt 24 = .ok (.iconst 0, 1) := by decide +kernel
theorem dX12_tooStrongAt_25 : decode cX12_tooStrongAt 25 = .ok (.iaload, 1) := by decide +kernel
theorem dX12_tooStrongAt_26 : decode cX12_tooStrongAt 26 = .ok (.if_icmp .ge 28, 3) := by decide +kernel
theorem dX12_tooStrongAt_29 : decode cX12_tooStrongAt 29 = .ok (.iload_n 2, 1) := by decide +kernel
theorem dX12_tooStrongAt_30 : decode cX12_tooStrongAt 30 = .ok (.aload_n 0, 1) := by decide +kernel
theorem dX12_tooStrongAt_31 : decode cX12_tooStrongAt 31 = .ok (.iload_n 1, 1) := by decide +kernel
theorem dX12_tooStrongAt_32 : decode cX12_tooStrongAt 32 = .ok (.iload_n 3, 1) := by decide +kernel
theorem dX12_tooStrongAt_33 : decode cX12_tooStrongAt 33 = .ok (.invokevirtual 245, 3) := by decide +kernel
theorem dX12_tooStrongAt_36 : decode cX12_tooStrongAt 36 = .ok (.ifCond .eq 9, 3) := by decide +kernel
theorem dX12_tooStrongAt_39 : decode cX12_tooStrongAt 39 = .ok (.iconst 1, 1) := by decide +kernel
theorem dX12_tooStrongAt_40 : decode cX12_tooStrongAt 40 = .ok (.iload_n 3, 1) := by decide +kernel
theorem dX12_tooStrongAt_41 : decode cX12_tooStrongAt 41 = .ok (.ishl, 1) := by decide +kernel
theorem dX12_tooStrongAt_42 : decode cX12_tooStrongAt 42 = .ok (.goto 4, 3) := by decide +kernel
theorem dX12_tooStrongAt_45 : decode cX12_tooStrongAt 45 = .ok (.iconst 0, 1) := by decide +kernel
theorem dX12_tooStrongAt_46 : decode cX12_tooStrongAt 46 = .ok (.ior, 1) := by decide +kernel
theorem dX12_tooStrongAt_47 : decode cX12_tooStrongAt 47 = .ok (.istore_n 2, 1) := by decide +kernel
theorem dX12_tooStrongAt_48 : decode cX12_tooStrongAt 48 = .ok (.iinc 3 1, 3) := by decide +kernel
theorem dX12_tooStrongAt_51 : decode cX12_tooStrongAt 51 = .ok (.goto (-32), 3) := by decide +kernel
theorem dX12_tooStrongAt_54 : decode cX12_tooStrongAt 54 = .ok (.iload_n 2, 1) := by decide +kernel
theorem dX12_tooStrongAt_55 : decode cX12_tooStrongAt 55 = .ok (.ireturn, 1) := by decide +kernel
def f_X12_tooStrongAt_19 (N : Nat) (R : Nat → Nat → Nat) : Nat → SI → Nat → Int32 → Int32 → Int32 → Option (Int32 × SI)
  | 0, _, _, _, _, _ => none
  | n + 1, σ, x0, x1, x2, x3 => ck (0 : Int32) 417 (if (σ (R x0 11) (0 : Int32).toNatClampNeg) ≤ x3 then (some (x2, σ)) else (bd (f_X12_isTooStrong N R σ x0 x1 x3) (fun a7 σ7 => if a7 = 0 then (f_X12_tooStrongAt_19 N R n σ7 x0 x1 (x2 ||| (0 : Int32)) (x3 + 1)) else (f_X12_tooStrongAt_19 N R n σ7 x0 x1 (x2 ||| ((1 : Int32) <<< (x3 &&& 31))) (x3 + 1)))))
def f_X12_tooStrongAt (N : Nat) (R : Nat → Nat → Nat) (σ : SI) (x0 : Nat) (x1 : Int32) : Option (Int32 × SI) := sq (up σ x0 0 (0 : Int32)) (fun σ1 => bd (f_X12_noBlast N R σ1 x0 x1) (fun a2 σ2 => if a2 = 0 then (f_X12_tooStrongAt_19 N R N σ2 x0 x1 (0 : Int32) (0 : Int32)) else (some ((0 : Int32), σ2))))
set_option maxHeartbeats 4000000 in
set_option maxRecDepth 100000 in
theorem w_X12_tooStrongAt_19 {l : Launch} {g : GL} {p : Program} {e : Jvm.Env} {s : State} {m : MethodId} {args : Array Value} {below : List Frame} {meth : Method} {c : Code} {R : Nat → Nat → Nat} {L : Nat → Nat → Int64} {r : (Int32 × SI)} {N : Nat} (C : Cx l g p s m meth c cX12_tooStrongAt 4 RX12) (hr : meth.sig.returnType = (some .int)) (hSh : ShR R) : ∀ (n : Nat) (σ : SI) (x0 : Nat) (x1 : Int32) (x2 : Int32) (x3 : Int32), f_X12_tooStrongAt_19 N R n σ x0 x1 x2 x3 = some r → Ok 194 x0 12 → ∀ (H : Heap) (locs : List Loc) (ls : Array Slot), S2 g s σ R L H locs → lv_has ls 4 [(0, .ref (gb g + x0)), (1, .int x1), (2, .int x2), (3, .int x3)] → W p l e (rmd 7 0 0) s m args below meth c H locs 0 0 (MQ below (Qg g 194 (PI R L r)) args s 0 0 (gA g)) (F0 m 19 ls []) := by
  have hx := C.1
  have hb := C.2.1
  intro n
  induction n with
  | zero =>
    intro σ x0 x1 x2 x3 h
    cases (show (none : Option (Int32 × SI)) = some r from h)
  | succ n ih =>
    intro σ x0 x1 x2 x3 h hx0 H locs ls S hl
    rw [f_X12_tooStrongAt_19] at h
    refine lv_iload_n hx hb dX12_tooStrongAt_19 rfl (lv_at hl 3 rfl) ?_
    refine lv_aload_n hx hb dX12_tooStrongAt_20 rfl (lv_at hl 0 rfl) ?_
    have hR4 : Ok 194 (R x0 11) 10417 := hSh x0 12 11 10417 hx0.1 rfl
    refine x_getR C S KX12 hx0 11 (by decide) rfl rfl fl_RX12_88 hR4 dX12_tooStrongAt_21 ?_
    refine lv_iconst (v := (0 : Int32)) hx hb dX12_tooStrongAt_24 (by decide) ?_
    obtain ⟨hi5, h⟩ := ck_el h
    refine x_iald (len := 417) C S (by decide) hR4 hi5 dX12_tooStrongAt_25 ?_
    refine lv_icmp_ge (tgt := 54) hx hb dX12_tooStrongAt_26 (by decide) (fun c6 => ?_) (fun c6 => ?_)
    · have h := it_p c6 h
      refine lv_iload_n hx hb dX12_tooStrongAt_54 rfl (lv_at hl 2 rfl) ?_
      exact x_iret C S hr h dX12_tooStrongAt_55
    · have h := it_n c6 h
      refine lv_iload_n hx hb dX12_tooStrongAt_29 rfl (lv_at hl 2 rfl) ?_
      refine lv_aload_n hx hb dX12_tooStrongAt_30 rfl (lv_at hl 0 rfl) ?_
      refine lv_iload_n hx hb dX12_tooStrongAt_31 rfl (lv_at hl 1 rfl) ?_
      refine lv_iload_n hx hb dX12_tooStrongAt_32 rfl (lv_at hl 3 rfl) ?_
      obtain ⟨a7, σ7, hc7, h⟩ := bd_el h
      refine x_callVI C S KX12 hx0 (ok_X12_isTooStrong (L := L) hc7 hSh hx0) ⟨cd_X12_isTooStrong, ni_RX12, ml_RX12_245, in_X12_isTooStrong, sl_X12_isTooStrong⟩ ⟨by decide, by decide⟩ rfl ⟨by decide, by decide⟩ hl.1 rfl (Nat.le_of_ble_eq_true rfl) ⟨by decide, by decide⟩ dX12_tooStrongAt_33 (fun H locs S => ?_)
      refine lv_if_eq (tgt := 45) hx hb dX12_tooStrongAt_36 (by decide) (fun c8 => ?_) (fun c8 => ?_)
      · have h := it_p c8 h
        refine lv_iconst (v := (0 : Int32)) hx hb dX12_tooStrongAt_45 (by decide) ?_
        refine lv_ior hx hb dX12_tooStrongAt_46 ?_
        refine lv_istore_n (lv' := [(2, .int (x2 ||| (0 : Int32))), (0, .ref (gb g + x0)), (1, .int x1), (3, .int x3)]) hx hb dX12_tooStrongAt_47 rfl hl (by decide) rfl (fun ls hl => ?_)
        refine lv_iinc (v := x3 + 1) (lv' := [(3, .int (x3 + 1)), (2, .int (x2 ||| (0 : Int32))), (0, .ref (gb g + x0)), (1, .int x1)]) hx hb dX12_tooStrongAt_48 hl (k := 3) rfl rfl (by decide) rfl (fun ls hl => ?_)
        refine lv_goto (tgt := 19) hx hb dX12_tooStrongAt_51 (by decide) ?_
        exact ih σ7 x0 x1 (x2 ||| (0 : Int32)) (x3 + 1) h hx0 H locs ls S (lv_sub hl [2, 3, 1, 0] rfl)
      · have h := it_n c8 h
        refine lv_iconst (v := (1 : Int32)) hx hb dX12_tooStrongAt_39 (by decide) ?_
        refine lv_iload_n hx hb dX12_tooStrongAt_40 rfl (lv_at hl 3 rfl) ?_
        refine lv_ishl hx hb dX12_tooStrongAt_41 ?_
        refine lv_goto (tgt := 46) hx hb dX12_tooStrongAt_42 (by decide) ?_
        refine lv_ior hx hb dX12_tooStrongAt_46 ?_
        refine lv_istore_n (lv' := [(2, .int (x2 ||| ((1 : Int32) <<< (x3 &&& 31)))), (0, .ref (gb g + x0)), (1, .int x1), (3, .int x3)]) hx hb dX12_tooStrongAt_47 rfl hl (by decide) rfl (fun ls hl => ?_)
        refine lv_iinc (v := x3 + 1) (lv' := [(3, .int (x3 + 1)), (2, .int (x2 ||| ((1 : Int32) <<< (x3 &&& 31)))), (0, .ref (gb g + x0)), (1, .int x1)]) hx hb dX12_tooStrongAt_48 hl (k := 3) rfl rfl (by decide) rfl (fun ls hl => ?_)
        refine lv_goto (tgt := 19) hx hb dX12_tooStrongAt_51 (by decide) ?_
        exact ih σ7 x0 x1 (x2 ||| ((1 : Int32) <<< (x3 &&& 31))) (x3 + 1) h hx0 H locs ls S (lv_sub hl [2, 3, 1, 0] rfl)
set_option maxHeartbeats 4000000 in
set_option maxRecDepth 100000 in
theorem ok_X12_tooStrongAt {l : Launch} {g : GL} {R : Nat → Nat → Nat} {L : Nat → Nat → Int64} {N : Nat} {σ : SI} {x0 : Nat} {x1 : Int32} {r : (Int32 × SI)} (h : f_X12_tooStrongAt N R σ x0 x1 = some r) (hSh : ShR R) (hx0 : Ok 194 x0 12) : Ct l g 7 yX12_tooStrongAt cX12_tooStrongAt 4 (some .int) 194 194 0 0 [.ref (gb g + x0), .int x1] (mkS σ R L) (PI R L r) := by
  refine Met.ofW (cc := cX12_tooStrongAt) (maxL := 4) (ret := (some .int)) (by decide) rfl ?_
  intro p e s m args below meth c s₁ B hml hv
  obtain ⟨rfl, hE, hLo, hWd⟩ := hv
  have hr : meth.sig.returnType = (some .int) := B.returns
  have C : Cx l g p s m meth c cX12_tooStrongAt 4 RX12 := ⟨B.exec, B.bytes, hml, findClass_of_methodNamed B.named, hE, hLo, B.notSynchronized⟩
  have S : S2 g s σ R L s.heap [] := ⟨hWd, va_S.rf⟩
  have hx := C.1
  have hb := C.2.1
  have hl := lv_entry ([.ref (gb g + x0), .int x1]) (n := 4) (Nat.le_of_ble_eq_true rfl)
  rw [lg_entry_eq]
  generalize (lg_sl ([.ref (gb g + x0), .int x1]) ++ List.replicate (4 - (lg_sl ([.ref (gb g + x0), .int x1])).length) Slot.unset).toArray = ls at hl ⊢
  have hl : lv_has ls 4 [(0, .ref (gb g + x0)), (1, .int x1)] := hl
  generalize hH : s.heap = H at S ⊢
  generalize hlc : ([] : List Loc) = locs at S ⊢
  rw [f_X12_tooStrongAt] at h
  refine lv_aload_n hx hb dX12_tooStrongAt_0 rfl (lv_at hl 0 rfl) ?_
  refine lv_iconst (v := (0 : Int32)) hx hb dX12_tooStrongAt_1 (by decide) ?_
  obtain ⟨σ1, hs1, h⟩ := sq_el h
  refine x_putI C S KX12 hx0 0 (by decide) rfl rfl rfl ⟨rfl, rfl⟩ fl_RX12_3 dX12_tooStrongAt_2 hs1 (fun H locs S => ?_)
  refine lv_aload_n hx hb dX12_tooStrongAt_5 rfl (lv_at hl 0 rfl) ?_
  refine lv_iload_n hx hb dX12_tooStrongAt_6 rfl (lv_at hl 1 rfl) ?_
  obtain ⟨a2, σ2, hc2, h⟩ := bd_el h
  refine x_callVI C S KX12 hx0 (ok_X12_noBlast (L := L) hc2 hSh hx0) ⟨cd_X12_noBlast, ni_RX12, ml_RX12_198, in_X12_noBlast, sl_X12_noBlast⟩ ⟨by decide, by decide⟩ rfl ⟨by decide, by decide⟩ hl.1 rfl (Nat.le_of_ble_eq_true rfl) ⟨by decide, by decide⟩ dX12_tooStrongAt_7 (fun H locs S => ?_)
  refine lv_if_eq (tgt := 15) hx hb dX12_tooStrongAt_10 (by decide) (fun c3 => ?_) (fun c3 => ?_)
  · have h := it_p c3 h
    refine lv_iconst (v := (0 : Int32)) hx hb dX12_tooStrongAt_15 (by decide) ?_
    refine lv_istore_n (lv' := [(2, .int (0 : Int32)), (0, .ref (gb g + x0)), (1, .int x1)]) hx hb dX12_tooStrongAt_16 rfl hl (by decide) rfl (fun ls hl => ?_)
    refine lv_iconst (v := (0 : Int32)) hx hb dX12_tooStrongAt_17 (by decide) ?_
    refine lv_istore_n (lv' := [(3, .int (0 : Int32)), (2, .int (0 : Int32)), (0, .ref (gb g + x0)), (1, .int x1)]) hx hb dX12_tooStrongAt_18 rfl hl (by decide) rfl (fun ls hl => ?_)
    exact w_X12_tooStrongAt_19 C hr hSh N σ2 x0 x1 (0 : Int32) (0 : Int32) h hx0 H locs ls S (lv_sub hl [2, 3, 1, 0] rfl)
  · have h := it_n c3 h
    refine lv_iconst (v := (0 : Int32)) hx hb dX12_tooStrongAt_13 (by decide) ?_
    exact x_iret C S hr h dX12_tooStrongAt_14
theorem dX12_neededGap_0 : decode cX12_neededGap 0 = .ok (.aload_n 0, 1) := by decide +kernel
theorem dX12_neededGap_1 : decode cX12_neededGap 1 = .ok (.iconst 0, 1) := by decide +kernel
theorem dX12_neededGap_2 : decode cX12_neededGap 2 = .ok (.putfield 3, 3) := by decide +kernel
theorem dX12_neededGap_5 : decode cX12_neededGap 5 = .ok (.aload_n 0, 1) := by decide +kernel
theorem dX12_neededGap_6 : decode cX12_neededGap 6 = .ok (.iload_n 1, 1) := by decide +kernel
theorem dX12_neededGap_7 : decode cX12_neededGap 7 = .ok (.invokevirtual 198, 3) := by decide +kernel
theorem dX12_neededGap_10 : decode cX12_neededGap 10 = .ok (.ifCond .ne 11, 3) := by decide +kernel
theorem dX12_neededGap_13 : decode cX12_neededGap 13 = .ok (.aload_n 0, 1) := by decide +kernel
theorem dX12_neededGap_14 : decode cX12_neededGap 14 = .ok (.iload_n 2, 1) := by decide +kernel
theorem dX12_neededGap_15 : decode cX12_neededGap 15 = .ok (.invokevirtual 242, 3) := by decide +kernel
theorem dX12_neededGap_18 : decode cX12_neededGap 18 = .ok (.ifCond .eq 5, 3) := by decide +kernel
theorem dX12_neededGap_21 : decode cX12_neededGap 21 = .ok (.iconst 0, 1) := by decide +kernel
theorem dX12_neededGap_22 : decode cX12_neededGap 22 = .ok (.ireturn, 1) := by decide +kernel
theorem dX12_neededGap_23 : decode cX12_neededGap 23 = .ok (.iconst 0, 1) := by decide +kernel
theorem dX12_neededGap_24 : decode cX12_neededGap 24 = .ok (.istore_n 3, 1) := by decide +kernel
theorem dX12_neededGap_25 : decode cX12_neededGap 25 = .ok (.iload_n 3, 1) := by decide +kernel
theorem dX12_neededGap_26 : decode cX12_neededGap 26 = .ok (.sipush 200, 3) := by decide +kernel
theorem dX12_neededGap_29 : decode cX12_neededGap 29 = .ok (.if_icmp .gt 28, 3) := by decide +kernel
theorem dX12_neededGap_32 : decode cX12_neededGap 32 = .ok (.aload_n 0, 1) := by decide +kernel
theorem dX12_neededGap_33 : decode cX12_neededGap 33 = .ok (.iload_n 1, 1) := by decide +kernel
theorem dX12_neededGap_34 : decode cX12_neededGap 34 = .ok (.iload_n 2, 1) := by decide +kernel
theorem dX12_neededGap_35 : decode cX12_neededGap 35 = .ok (.iload_n 3, 1) := by decide +kernel
theorem dX12_neededGap_36 : decode cX12_neededGap 36 = .ok (.invokevirtual 239, 3) := by decide +kernel
theorem dX12_neededGap_39 : decode cX12_neededGap 39 = .ok (.aload_n 0, 1) := by decide +kernel
theorem dX12_neededGap_40 : decode cX12_neededGap 40 = .ok (.iload_n 2, 1) := by decide +kernel
theorem dX12_neededGap_41 : decode cX12_neededGap 41 = .ok (.bipush 8, 2) := by decide +kernel
theorem dX12_neededGap_43 : decode cX12_neededGap 43 = .ok (.invokevirtual 227, 3) := by decide +kernel
theorem dX12_neededGap_46 : decode cX12_neededGap 46 = .ok (.if_icmp .gt 5, 3) := by decide +kernel
theorem dX12_neededGap_49 : decode cX12_neededGap 49 = .ok (.iload_n 3, 1) := by decide +kernel
theorem dX12_neededGap_50 : decode cX12_neededGap 50 = .ok (.ireturn, 1) := by decide +kernel
theorem dX12_neededGap_51 : decode cX12_neededGap 51 = .ok (.iinc 3 1, 3) := by decide +kernel
theorem dX12_neededGap_54 : decode cX12_neededGap 54 = .ok (.goto (-29), 3) := by decide +kernel
theorem dX12_neededGap_57 : decode cX12_neededGap 57 = .ok (.iconst (-1), 1) := by decide +kernel
theorem dX12_neededGap_58 : decode cX12_neededGap 58 = .ok (.ireturn, 1) := by decide +kernel
def f_X12_neededGap_25 (N : Nat) (R : Nat → Nat → Nat) : Nat → SI → Nat → Int32 → Int32 → Int32 → Option (Int32 × SI)
  | 0, _, _, _, _, _ => none
  | n + 1, σ, x0, x1, x2, x3 => if (200 : Int32) < x3 then (some ((-1 : Int32), σ)) else (bd (f_X12_shakes N R σ x0 x1 x2 x3) (fun a7 σ7 => bd (f_X12_ofNear N R σ7 x0 x2 (8 : Int32)) (fun a8 σ8 => if a8 < a7 then (f_X12_neededGap_25 N R n σ8 x0 x1 x2 (x3 + 1)) else (some (x3, σ8)))))
def f_X12_neededGap (N : Nat) (R : Nat → Nat → Nat) (σ : SI) (x0 : Nat) (x1 : Int32) (x2 : Int32) : Option (Int32 × SI) := sq (up σ x0 0 (0 : Int32)) (fun σ1 => bd (f_X12_noBlast N R σ1 x0 x1) (fun a2 σ2 => if a2 = 0 then (bd (f_X12_noNear N R σ2 x0 x2) (fun a4 σ4 => if a4 = 0 then (f_X12_neededGap_25 N R N σ4 x0 x1 x2 (0 : Int32)) else (some ((0 : Int32), σ4)))) else (some ((0 : Int32), σ2))))
set_option maxHeartbeats 4000000 in
set_option maxRecDepth 100000 in
theorem w_X12_neededGap_25 {l : Launch} {g : GL} {p : Program} {e : Jvm.Env} {s : State} {m : MethodId} {args : Array Value} {below : List Frame} {meth : Method} {c : Code} {R : Nat → Nat → Nat} {L : Nat → Nat → Int64} {r : (Int32 × SI)} {N : Nat} (C : Cx l g p s m meth c cX12_neededGap 4 RX12) (hr : meth.sig.returnType = (some .int)) (hSh : ShR R) : ∀ (n : Nat) (σ : SI) (x0 : Nat) (x1 : Int32) (x2 : Int32) (x3 : Int32), f_X12_neededGap_25 N R n σ x0 x1 x2 x3 = some r → Ok 194 x0 12 → ∀ (H : Heap) (locs : List Loc) (ls : Array Slot), S2 g s σ R L H locs → lv_has ls 4 [(0, .ref (gb g + x0)), (1, .int x1), (2, .int x2), (3, .int x3)] → W p l e (rmd 6 0 0) s m args below meth c H locs 0 0 (MQ below (Qg g 194 (PI R L r)) args s 0 0 (gA g)) (F0 m 25 ls []) := by
  have hx := C.1
  have hb := C.2.1
  intro n
  induction n with
  | zero =>
    intro σ x0 x1 x2 x3 h
    cases (show (none : Option (Int32 × SI)) = some r from h)
  | succ n ih =>
    intro σ x0 x1 x2 x3 h hx0 H locs ls S hl
    rw [f_X12_neededGap_25] at h
    refine lv_iload_n hx hb dX12_neededGap_25 rfl (lv_at hl 3 rfl) ?_
    refine lv_sipush (v := (200 : Int32)) hx hb dX12_neededGap_26 (by decide) ?_
    refine lv_icmp_gt (tgt := 57) hx hb dX12_neededGap_29 (by decide) (fun c6 => ?_) (fun c6 => ?_)
    · have h := it_p c6 h
      refine lv_iconst (v := (-1 : Int32)) hx hb dX12_neededGap_57 (by decide) ?_
      exact x_iret C S hr h dX12_neededGap_58
    · have h := it_n c6 h
      refine lv_aload_n hx hb dX12_neededGap_32 rfl (lv_at hl 0 rfl) ?_
      refine lv_iload_n hx hb dX12_neededGap_33 rfl (lv_at hl 1 rfl) ?_
      refine lv_iload_n hx hb dX12_neededGap_34 rfl (lv_at hl 2 rfl) ?_
      refine lv_iload_n hx hb dX12_neededGap_35 rfl (lv_at hl 3 rfl) ?_
      obtain ⟨a7, σ7, hc7, h⟩ := bd_el h
      refine x_callVI C S KX12 hx0 (ok_X12_shakes (L := L) hc7 hSh hx0) ⟨cd_X12_shakes, ni_RX12, ml_RX12_239, in_X12_shakes, sl_X12_shakes⟩ ⟨by decide, by decide⟩ rfl ⟨by decide, by decide⟩ hl.1 rfl (Nat.le_of_ble_eq_true rfl) ⟨by decide, by decide⟩ dX12_neededGap_36 (fun H locs S => ?_)
      refine lv_aload_n hx hb dX12_neededGap_39 rfl (lv_at hl 0 rfl) ?_
      refine lv_iload_n hx hb dX12_neededGap_40 rfl (lv_at hl 2 rfl) ?_
      refine lv_bipush (v := (8 : Int32)) hx hb dX12_neededGap_41 (by decide) ?_
      obtain ⟨a8, σ8, hc8, h⟩ := bd_el h
      refine x_callVI C S KX12 hx0 (ok_X12_ofNear (L := L) hc8 hSh hx0) ⟨cd_X12_ofNear, ni_RX12, ml_RX12_227, in_X12_ofNear, sl_X12_ofNear⟩ ⟨by decide, by decide⟩ rfl ⟨by decide, by decide⟩ hl.1 rfl (Nat.le_of_ble_eq_true rfl) ⟨by decide, by decide⟩ dX12_neededGap_43 (fun H locs S => ?_)
      refine lv_icmp_gt (tgt := 51) hx hb dX12_neededGap_46 (by decide) (fun c9 => ?_) (fun c9 => ?_)
      · have h := it_p c9 h
        refine lv_iinc (v := x3 + 1) (lv' := [(3, .int (x3 + 1)), (0, .ref (gb g + x0)), (1, .int x1), (2, .int x2)]) hx hb dX12_neededGap_51 hl (k := 3) rfl rfl (by decide) rfl (fun ls hl => ?_)
        refine lv_goto (tgt := 25) hx hb dX12_neededGap_54 (by decide) ?_
        exact ih σ8 x0 x1 x2 (x3 + 1) h hx0 H locs ls S (lv_sub hl [1, 2, 3, 0] rfl)
      · have h := it_n c9 h
        refine lv_iload_n hx hb dX12_neededGap_49 rfl (lv_at hl 3 rfl) ?_
        exact x_iret C S hr h dX12_neededGap_50
set_option maxHeartbeats 4000000 in
set_option maxRecDepth 100000 in
theorem ok_X12_neededGap {l : Launch} {g : GL} {R : Nat → Nat → Nat} {L : Nat → Nat → Int64} {N : Nat} {σ : SI} {x0 : Nat} {x1 : Int32} {x2 : Int32} {r : (Int32 × SI)} (h : f_X12_neededGap N R σ x0 x1 x2 = some r) (hSh : ShR R) (hx0 : Ok 194 x0 12) : Ct l g 6 yX12_neededGap cX12_neededGap 4 (some .int) 194 194 0 0 [.ref (gb g + x0), .int x1, .int x2] (mkS σ R L) (PI R L r) := by
  refine Met.ofW (cc := cX12_neededGap) (maxL := 4) (ret := (some .int)) (by decide) rfl ?_
  intro p e s m args below meth c s₁ B hml hv
  obtain ⟨rfl, hE, hLo, hWd⟩ := hv
  have hr : meth.sig.returnType = (some .int) := B.returns
  have C : Cx l g p s m meth c cX12_neededGap 4 RX12 := ⟨B.exec, B.bytes, hml, findClass_of_methodNamed B.named, hE, hLo, B.notSynchronized⟩
  have S : S2 g s σ R L s.heap [] := ⟨hWd, va_S.rf⟩
  have hx := C.1
  have hb := C.2.1
  have hl := lv_entry ([.ref (gb g + x0), .int x1, .int x2]) (n := 4) (Nat.le_of_ble_eq_true rfl)
  rw [lg_entry_eq]
  generalize (lg_sl ([.ref (gb g + x0), .int x1, .int x2]) ++ List.replicate (4 - (lg_sl ([.ref (gb g + x0), .int x1, .int x2])).length) Slot.unset).toArray = ls at hl ⊢
  have hl : lv_has ls 4 [(0, .ref (gb g + x0)), (1, .int x1), (2, .int x2)] := hl
  generalize hH : s.heap = H at S ⊢
  generalize hlc : ([] : List Loc) = locs at S ⊢
  rw [f_X12_neededGap] at h
  refine lv_aload_n hx hb dX12_neededGap_0 rfl (lv_at hl 0 rfl) ?_
  refine lv_iconst (v := (0 : Int32)) hx hb dX12_neededGap_1 (by decide) ?_
  obtain ⟨σ1, hs1, h⟩ := sq_el h
  refine x_putI C S KX12 hx0 0 (by decide) rfl rfl rfl ⟨rfl, rfl⟩ fl_RX12_3 dX12_neededGap_2 hs1 (fun H locs S => ?_)
  refine lv_aload_n hx hb dX12_neededGap_5 rfl (lv_at hl 0 rfl) ?_
  refine lv_iload_n hx hb dX12_neededGap_6 rfl (lv_at hl 1 rfl) ?_
  obtain ⟨a2, σ2, hc2, h⟩ := bd_el h
  refine x_callVI C S KX12 hx0 (ok_X12_noBlast (L := L) hc2 hSh hx0) ⟨cd_X12_noBlast, ni_RX12, ml_RX12_198, in_X12_noBlast, sl_X12_noBlast⟩ ⟨by decide, by decide⟩ rfl ⟨by decide, by decide⟩ hl.1 rfl (Nat.le_of_ble_eq_true rfl) ⟨by decide, by decide⟩ dX12_neededGap_7 (fun H locs S => ?_)
  refine lv_if_ne (tgt := 21) hx hb dX12_neededGap_10 (by decide) (fun c3 => ?_) (fun c3 => ?_)
  · have h := it_n c3 h
    refine lv_iconst (v := (0 : Int32)) hx hb dX12_neededGap_21 (by decide) ?_
    exact x_iret C S hr h dX12_neededGap_22
  · have h := it_p c3 h
    refine lv_aload_n hx hb dX12_neededGap_13 rfl (lv_at hl 0 rfl) ?_
    refine lv_iload_n hx hb dX12_neededGap_14 rfl (lv_at hl 2 rfl) ?_
    obtain ⟨a4, σ4, hc4, h⟩ := bd_el h
    refine x_callVI C S KX12 hx0 (ok_X12_noNear (L := L) hc4 hSh hx0) ⟨cd_X12_noNear, ni_RX12, ml_RX12_242, in_X12_noNear, sl_X12_noNear⟩ ⟨by decide, by decide⟩ rfl ⟨by decide, by decide⟩ hl.1 rfl (Nat.le_of_ble_eq_true rfl) ⟨by decide, by decide⟩ dX12_neededGap_15 (fun H locs S => ?_)
    refine lv_if_eq (tgt := 23) hx hb dX12_neededGap_18 (by decide) (fun c5 => ?_) (fun c5 => ?_)
    · have h := it_p c5 h
      refine lv_iconst (v := (0 : Int32)) hx hb dX12_neededGap_23 (by decide) ?_
      refine lv_istore_n (lv' := [(3, .int (0 : Int32)), (0, .ref (gb g + x0)), (1, .int x1), (2, .int x2)]) hx hb dX12_neededGap_24 rfl hl (by decide) rfl (fun ls hl => ?_)
      exact w_X12_neededGap_25 C hr hSh N σ4 x0 x1 x2 (0 : Int32) h hx0 H locs ls S (lv_sub hl [1, 2, 3, 0] rfl)
    · have h := it_n c5 h
      refine lv_iconst (v := (0 : Int32)) hx hb dX12_neededGap_21 (by decide) ?_
      exact x_iret C S hr h dX12_neededGap_22
theorem dX12_vibrationIfGap_0 : decode cX12_vibrationIfGap 0 = .ok (.aload_n 0, 1) := by decide +kernel
theorem dX12_vibrationIfGap_1 : decode cX12_vibrationIfGap 1 = .ok (.iconst 0, 1) := by decide +kernel
theorem dX12_vibrationIfGap_2 : decode cX12_vibrationIfGap 2 = .ok (.putfield 3, 3) := by decide +kernel
theorem dX12_vibrationIfGap_5 : decode cX12_vibrationIfGap 5 = .ok (.aload_n 0, 1) := by decide +kernel
theorem dX12_vibrationIfGap_6 : decode cX12_vibrationIfGap 6 = .ok (.iload_n 1, 1) := by decide +kernel
theorem dX12_vibrationIfGap_7 : decode cX12_vibrationIfGap 7 = .ok (.invokevirtual 198, 3) := by decide +kernel
theorem dX12_vibrationIfGap_10 : decode cX12_vibrationIfGap 10 = .ok (.ifCond .ne 35, 3) := by decide +kernel
theorem dX12_vibrationIfGap_13 : decode cX12_vibrationIfGap 13 = .ok (.aload_n 0, 1) := by decide +kernel
theorem dX12_vibrationIfGap_14 : decode cX12_vibrationIfGap 14 = .ok (.iload_n 2, 1) := by decide +kernel
theorem dX12_vibrationIfGap_15 : decode cX12_vibrationIfGap 15 = .ok (.invokevirtual 242, 3) := by decide +kernel
theorem dX12_vibrationIfGap_18 : decode cX12_vibrationIfGap 18 = .ok (.ifCond .ne 27, 3) := by decide +kernel
theorem dX12_vibrationIfGap_21 : decode cX12_vibrationIfGap 21 = .ok (.aload_n 0, 1) := by decide +kernel
theorem dX12_vibrationIfGap_22 : decode cX12_vibrationIfGap 22 = .ok (.iload_n 3, 1) := by decide +kernel
theorem dX12_vibrationIfGap_23 : decode cX12_vibrationIfGap 23 = .ok (.iconst 0, 1) := by decide +kernel
theorem dX12_vibrationIfGap_24 : decode cX12_vibrationIfGap 24 = .ok (.sipush 800, 3) := by decide +kernel
theorem dX12_vibrationIfGap_27 : decode cX12_vibrationIfGap 27 = .ok (.invokestatic 71, 3) := by decide +kernel
theorem dX12_vibrationIfGap_30 : decode cX12_vibrationIfGap 30 = .ok (.ifCond .ne 7, 3) := by decide +kernel
theorem dX12_vibrationIfGap_33 : decode cX12_vibrationIfGap 33 = .ok (.iconst 1, 1) := by decide +kernel
theorem dX12_vibrationIfGap_34 : decode cX12_vibrationIfGap 34 = .ok (.goto 4, 3) := by decide +kernel
theorem dX12_vibrationIfGap_37 : decode cX12_vibrationIfGap 37 = .ok (.iconst 0, 1) := by decide +kernel
theorem dX12_vibrationIfGap_38 : decode cX12_vibrationIfGap 38 = .ok (.iconst 2, 1) := by decide +kernel
theorem dX12_vibrationIfGap_39 : decode cX12_vibrationIfGap 39 = .ok (.invokevirtual 185, 3) := by decide +kernel
theorem dX12_vibrationIfGap_42 : decode cX12_vibrationIfGap 42 = .ok (.ifCond .eq 7, 3) := by decide +kernel
theorem dX12_vibrationIfGap_45 : decode cX12_vibrationIfGap 45 = .ok (.iconst 0, 1) := by decide +kernel
theorem dX12_vibrationIfGap_46 : decode cX12_vibrationIfGap 46 = .ok (.goto 10, 3) := by decide +kernel
theorem dX12_vibrationIfGap_49 : decode cX12_vibrationIfGap 49 = .ok (.aload_n 0, 1) := by decide +kernel
theorem dX12_vibrationIfGap_50 : decode cX12_vibrationIfGap 50 = .ok (.iload_n 1, 1) := by decide +kernel
theorem dX12_vibrationIfGap_51 : decode cX12_vibrationIfGap 51 = .ok (.iload_n 2, 1) := by decide +kernel
theorem dX12_vibrationIfGap_52 : decode cX12_vibrationIfGap 52 = .ok (.iload_n 3, 1) := by decide +kernel
theorem dX12_vibrationIfGap_53 : decode cX12_vibrationIfGap 53 = .ok (.invokevirtual 239, 3) := by decide +kernel
theorem dX12_vibrationIfGap_56 : decode cX12_vibrationIfGap 56 = .ok (.ireturn, 1) := by decide +kernel
def f_X12_vibrationIfGap_45 (N : Nat) (R : Nat → Nat → Nat) (σ : SI) : Option (Int32 × SI) := some ((0 : Int32), σ)
def f_X12_vibrationIfGap (N : Nat) (R : Nat → Nat → Nat) (σ : SI) (x0 : Nat) (x1 : Int32) (x2 : Int32) (x3 : Int32) : Option (Int32 × SI) := sq (up σ x0 0 (0 : Int32)) (fun σ1 => bd (f_X12_noBlast N R σ1 x0 x1) (fun a2 σ2 => if a2 = 0 then (bd (f_X12_noNear N R σ2 x0 x2) (fun a4 σ4 => if a4 = 0 then (bd (f_X12_in N R σ4 x3 (0 : Int32) (800 : Int32)) (fun a6 σ6 => if a6 = 0 then (bd (f_X12_throwsIf N R σ6 x0 (1 : Int32) (2 : Int32)) (fun a11 σ11 => if a11 = 0 then (bd (f_X12_shakes N R σ11 x0 x1 x2 x3) (fun a13 σ13 => some (a13, σ13))) else (f_X12_vibrationIfGap_45 N R σ11))) else (bd (f_X12_throwsIf N R σ6 x0 (0 : Int32) (2 : Int32)) (fun a8 σ8 => if a8 = 0 then (bd (f_X12_shakes N R σ8 x0 x1 x2 x3) (fun a10 σ10 => some (a10, σ10))) else (f_X12_vibrationIfGap_45 N R σ8))))) else (f_X12_vibrationIfGap_45 N R σ4))) else (f_X12_vibrationIfGap_45 N R σ2)))
set_option maxHeartbeats 4000000 in
set_option maxRecDepth 100000 in
theorem w_X12_vibrationIfGap_45 {l : Launch} {g : GL} {p : Program} {e : Jvm.Env} {s : State} {m : MethodId} {args : Array Value} {below : List Frame} {meth : Method} {c : Code} {R : Nat → Nat → Nat} {L : Nat → Nat → Int64} {r : (Int32 × SI)} {N : Nat} (C : Cx l g p s m meth c cX12_vibrationIfGap 4 RX12) (hr : meth.sig.returnType = (some .int)) (hSh : ShR R) : ∀ (σ : SI), f_X12_vibrationIfGap_45 N R σ = some r → ∀ (H : Heap) (locs : List Loc) (ls : Array Slot), S2 g s σ R L H locs → lv_has ls 4 [] → W p l e (rmd 6 0 0) s m args below meth c H locs 0 0 (MQ below (Qg g 194 (PI R L r)) args s 0 0 (gA g)) (F0 m 45 ls []) := by
  have hx := C.1
  have hb := C.2.1
  intro σ h H locs ls S hl
  rw [f_X12_vibrationIfGap_45] at h
  refine lv_iconst (v := (0 : Int32)) hx hb dX12_vibrationIfGap_45 (by decide) ?_
  refine lv_goto (tgt := 56) hx hb dX12_vibrationIfGap_46 (by decide) ?_
  exact x_iret C S hr h dX12_vibrationIfGap_56
set_option maxHeartbeats 4000000 in
set_option maxRecDepth 100000 in
theorem ok_X12_vibrationIfGap {l : Launch} {g : GL} {R : Nat → Nat → Nat} {L : Nat → Nat → Int64} {N : Nat} {σ : SI} {x0 : Nat} {x1 : Int32} {x2 : Int32} {x3 : Int32} {r : (Int32 × SI)} (h : f_X12_vibrationIfGap N R σ x0 x1 x2 x3 = some r) (hSh : ShR R) (hx0 : Ok 194 x0 12) : Ct l g 6 yX12_vibrationIfGap cX12_vibrationIfGap 4 (some .int) 194 194 0 0 [.ref (gb g + x0), .int x1, .int x2, .int x3] (mkS σ R L) (PI R L r) := by
  refine Met.ofW (cc := cX12_vibrationIfGap) (maxL := 4) (ret := (some .int)) (by decide) rfl ?_
  intro p e s m args below meth c s₁ B hml hv
  obtain ⟨rfl, hE, hLo, hWd⟩ := hv
  have hr : meth.sig.returnType = (some .int) := B.returns
  have C : Cx l g p s m meth c cX12_vibrationIfGap 4 RX12 := ⟨B.exec, B.bytes, hml, findClass_of_methodNamed B.named, hE, hLo, B.notSynchronized⟩
  have S : S2 g s σ R L s.heap [] := ⟨hWd, va_S.rf⟩
  have hx := C.1
  have hb := C.2.1
  have hl := lv_entry ([.ref (gb g + x0), .int x1, .int x2, .int x3]) (n := 4) (Nat.le_of_ble_eq_true rfl)
  rw [lg_entry_eq]
  generalize (lg_sl ([.ref (gb g + x0), .int x1, .int x2, .int x3]) ++ List.replicate (4 - (lg_sl ([.ref (gb g + x0), .int x1, .int x2, .int x3])).length) Slot.unset).toArray = ls at hl ⊢
  have hl : lv_has ls 4 [(0, .ref (gb g + x0)), (1, .int x1), (2, .int x2), (3, .int x3)] := hl
  generalize hH : s.heap = H at S ⊢
  generalize hlc : ([] : List Loc) = locs at S ⊢
  rw [f_X12_vibrationIfGap] at h
  refine lv_aload_n hx hb dX12_vibrationIfGap_0 rfl (lv_at hl 0 rfl) ?_
  refine lv_iconst (v := (0 : Int32)) hx hb dX12_vibrationIfGap_1 (by decide) ?_
  obtain ⟨σ1, hs1, h⟩ := sq_el h
  refine x_putI C S KX12 hx0 0 (by decide) rfl rfl rfl ⟨rfl, rfl⟩ fl_RX12_3 dX12_vibrationIfGap_2 hs1 (fun H locs S => ?_)
  refine lv_aload_n hx hb dX12_vibrationIfGap_5 rfl (lv_at hl 0 rfl) ?_
  refine lv_iload_n hx hb dX12_vibrationIfGap_6 rfl (lv_at hl 1 rfl) ?_
  obtain ⟨a2, σ2, hc2, h⟩ := bd_el h
  refine x_callVI C S KX12 hx0 (ok_X12_noBlast (L := L) hc2 hSh hx0) ⟨cd_X12_noBlast, ni_RX12, ml_RX12_198, in_X12_noBlast, sl_X12_noBlast⟩ ⟨by decide, by decide⟩ rfl ⟨by decide, by decide⟩ hl.1 rfl (Nat.le_of_ble_eq_true rfl) ⟨by decide, by decide⟩ dX12_vibrationIfGap_7 (fun H locs S => ?_)
  refine lv_if_ne (tgt := 45) hx hb dX12_vibrationIfGap_10 (by decide) (fun c3 => ?_) (fun c3 => ?_)
  · have h := it_n c3 h
    exact w_X12_vibrationIfGap_45 C hr hSh σ2 h H locs ls S (lv_sub hl [] rfl)
  · have h := it_p c3 h
    refine lv_aload_n hx hb dX12_vibrationIfGap_13 rfl (lv_at hl 0 rfl) ?_
    refine lv_iload_n hx hb dX12_vibrationIfGap_14 rfl (lv_at hl 2 rfl) ?_
    obtain ⟨a4, σ4, hc4, h⟩ := bd_el h
    refine x_callVI C S KX12 hx0 (ok_X12_noNear (L := L) hc4 hSh hx0) ⟨cd_X12_noNear, ni_RX12, ml_RX12_242, in_X12_noNear, sl_X12_noNear⟩ ⟨by decide, by decide⟩ rfl ⟨by decide, by decide⟩ hl.1 rfl (Nat.le_of_ble_eq_true rfl) ⟨by decide, by decide⟩ dX12_vibrationIfGap_15 (fun H locs S => ?_)
    refine lv_if_ne (tgt := 45) hx hb dX12_vibrationIfGap_18 (by decide) (fun c5 => ?_) (fun c5 => ?_)
    · have h := it_n c5 h
      exact w_X12_vibrationIfGap_45 C hr hSh σ4 h H locs ls S (lv_sub hl [] rfl)
    · have h := it_p c5 h
      refine lv_aload_n hx hb dX12_vibrationIfGap_21 rfl (lv_at hl 0 rfl) ?_
      refine lv_iload_n hx hb dX12_vibrationIfGap_22 rfl (lv_at hl 3 rfl) ?_
      refine lv_iconst (v := (0 : Int32)) hx hb dX12_vibrationIfGap_23 (by decide) ?_
      refine lv_sipush (v := (800 : Int32)) hx hb dX12_vibrationIfGap_24 (by decide) ?_
      obtain ⟨a6, σ6, hc6, h⟩ := bd_el h
      refine x_callSI C S (ok_X12_in (L := L) hc6 hSh) ⟨cd_X12_in, ni_RX12, ml_RX12_71, st_X12_in⟩ ⟨by decide, by decide⟩ rfl ⟨by decide, by decide⟩ hl.1 rfl (Nat.le_of_ble_eq_true rfl) ⟨by decide, by decide⟩ dX12_vibrationIfGap_27 (fun H locs S => ?_)
      refine lv_if_ne (tgt := 37) hx hb dX12_vibrationIfGap_30 (by decide) (fun c7 => ?_) (fun c7 => ?_)
      · have h := it_n c7 h
        refine lv_iconst (v := (0 : Int32)) hx hb dX12_vibrationIfGap_37 (by decide) ?_
        refine lv_iconst (v := (2 : Int32)) hx hb dX12_vibrationIfGap_38 (by decide) ?_
        obtain ⟨a8, σ8, hc8, h⟩ := bd_el h
        refine x_callVI C S KX12 hx0 (ok_X12_throwsIf (L := L) hc8 hSh hx0) ⟨cd_X12_throwsIf, ni_RX12, ml_RX12_185, in_X12_throwsIf, sl_X12_throwsIf⟩ ⟨by decide, by decide⟩ rfl ⟨by decide, by decide⟩ hl.1 rfl (Nat.le_of_ble_eq_true rfl) ⟨by decide, by decide⟩ dX12_vibrationIfGap_39 (fun H locs S => ?_)
        refine lv_if_eq (tgt := 49) hx hb dX12_vibrationIfGap_42 (by decide) (fun c9 => ?_) (fun c9 => ?_)
        · have h := it_p c9 h
          refine lv_aload_n hx hb dX12_vibrationIfGap_49 rfl (lv_at hl 0 rfl) ?_
          refine lv_iload_n hx hb dX12_vibrationIfGap_50 rfl (lv_at hl 1 rfl) ?_
          refine lv_iload_n hx hb dX12_vibrationIfGap_51 rfl (lv_at hl 2 rfl) ?_
          refine lv_iload_n hx hb dX12_vibrationIfGap_52 rfl (lv_at hl 3 rfl) ?_
          obtain ⟨a10, σ10, hc10, h⟩ := bd_el h
          refine x_callVI C S KX12 hx0 (ok_X12_shakes (L := L) hc10 hSh hx0) ⟨cd_X12_shakes, ni_RX12, ml_RX12_239, in_X12_shakes, sl_X12_shakes⟩ ⟨by decide, by decide⟩ rfl ⟨by decide, by decide⟩ hl.1 rfl (Nat.le_of_ble_eq_true rfl) ⟨by decide, by decide⟩ dX12_vibrationIfGap_53 (fun H locs S => ?_)
          exact x_iret C S hr h dX12_vibrationIfGap_56
        · have h := it_n c9 h
          exact w_X12_vibrationIfGap_45 C hr hSh σ8 h H locs ls S (lv_sub hl [] rfl)
      · have h := it_p c7 h
        refine lv_iconst (v := (1 : Int32)) hx hb dX12_vibrationIfGap_33 (by decide) ?_
        refine lv_goto (tgt := 38) hx hb dX12_vibrationIfGap_34 (by decide) ?_
        refine lv_iconst (v := (2 : Int32)) hx hb dX12_vibrationIfGap_38 (by decide) ?_
        obtain ⟨a11, σ11, hc11, h⟩ := bd_el h
        refine x_callVI C S KX12 hx0 (ok_X12_throwsIf (L := L) hc11 hSh hx0) ⟨cd_X12_throwsIf, ni_RX12, ml_RX12_185, in_X12_throwsIf, sl_X12_throwsIf⟩ ⟨by decide, by decide⟩ rfl ⟨by decide, by decide⟩ hl.1 rfl (Nat.le_of_ble_eq_true rfl) ⟨by decide, by decide⟩ dX12_vibrationIfGap_39 (fun H locs S => ?_)
        refine lv_if_eq (tgt := 49) hx hb dX12_vibrationIfGap_42 (by decide) (fun c12 => ?_) (fun c12 => ?_)
        · have h := it_p c12 h
          refine lv_aload_n hx hb dX12_vibrationIfGap_49 rfl (lv_at hl 0 rfl) ?_
          refine lv_iload_n hx hb dX12_vibrationIfGap_50 rfl (lv_at hl 1 rfl) ?_
          refine lv_iload_n hx hb dX12_vibrationIfGap_51 rfl (lv_at hl 2 rfl) ?_
          refine lv_iload_n hx hb dX12_vibrationIfGap_52 rfl (lv_at hl 3 rfl) ?_
          obtain ⟨a13, σ13, hc13, h⟩ := bd_el h
          refine x_callVI C S KX12 hx0 (ok_X12_shakes (L := L) hc13 hSh hx0) ⟨cd_X12_shakes, ni_RX12, ml_RX12_239, in_X12_shakes, sl_X12_shakes⟩ ⟨by decide, by decide⟩ rfl ⟨by decide, by decide⟩ hl.1 rfl (Nat.le_of_ble_eq_true rfl) ⟨by decide, by decide⟩ dX12_vibrationIfGap_53 (fun H locs S => ?_)
          exact x_iret C S hr h dX12_vibrationIfGap_56
        · have h := it_n c12 h
          exact w_X12_vibrationIfGap_45 C hr hSh σ11 h H locs ls S (lv_sub hl [] rfl)
theorem dX12_isNear_0 : decode cX12_isNear 0 = .ok (.aload_n 0, 1) := by decide +kernel
theorem dX12_isNear_1 : decode cX12_isNear 1 = .ok (.iload_n 1, 1) := by decide +kernel
theorem dX12_isNear_2 : decode cX12_isNear 2 = .ok (.bipush 6, 2) := by decide +kernel
theorem dX12_isNear_4 : decode cX12_isNear 4 = .ok (.invokevirtual 192, 3) := by decide +kernel
theorem dX12_isNear_7 : decode cX12_isNear 7 = .ok (.aload_n 0, 1) := by decide +kernel
theorem dX12_isNear_8 : decode cX12_isNear 8 = .ok (.iload_n 2, 1) := by decide +kernel
theorem dX12_isNear_9 : decode cX12_isNear 9 = .ok (.bipush 6, 2) := by decide +kernel
theorem dX12_isNear_11 : decode cX12_isNear 11 = .ok (.invokevirtual 248, 3) := by decide +kernel
theorem dX12_isNear_14 : decode cX12_isNear 14 = .ok (.isub, 1) := by decide +kernel
theorem dX12_isNear_15 : decode cX12_isNear 15 = .ok (.i2l, 1) := by decide +kernel
theorem dX12_isNear_16 : decode cX12_isNear 16 = .ok (.lstore 4, 2) := by decide +kernel
theorem dX12_isNear_18 : decode cX12_isNear 18 = .ok (.aload_n 0, 1) := by decide +kernel
theorem dX12_isNear_19 : decode cX12_isNear 19 = .ok (.iload_n 1, 1) := by decide +kernel
theorem dX12_isNear_20 : decode cX12_isNear 20 = .ok (.bipush 7, 2) := by decide +kernel
theorem dX12_isNear_22 : decode cX12_isNear 22 = .ok (.invokevirtual 192, 3) := by decide +kernel
theorem dX12_isNear_25 : decode cX12_isNear 25 = .ok (.aload_n 0, 1) := by decide +kernel
theorem dX12_isNear_26 : decode cX12_isNear 26 = .ok (.iload_n 2, 1) := by decide +kernel
theorem dX12_isNear_27 : decode cX12_isNear 27 = .ok (.bipush 7, 2) := by decide +kernel
theorem dX12_isNear_29 : decode cX12_isNear 29 = .ok (.invokevirtual 248, 3) := by decide +kernel
theorem dX12_isNear_32 : decode cX12_isNear 32 = .ok (.isub, 1) := by decide +kernel
theorem dX12_isNear_33 : decode cX12_isNear 33 = .ok (.i2l, 1) := by decide +kernel
theorem dX12_isNear_34 : decode cX12_isNear 34 = .ok (.lstore 6, 2) := by decide +kernel
theorem dX12_isNear_36 : decode cX12_isNear 36 = .ok (.aload_n 0, 1) := by decide +kernel
theorem dX12_isNear_37 : decode cX12_isNear 37 = .ok (.iload_n 2, 1) := by decide +kernel
theorem dX12_isNear_38 : decode cX12_isNear 38 = .ok (.bipush 8, 2) := by decide +kernel
theorem dX12_isNear_40 : decode cX12_isNear 40 = .ok (.invokevirtual 248, 3) := by decide +kernel
theorem dX12_isNear_43 : decode cX12_isNear 43 = .ok (.aload_n 0, 1) := by decide +kernel
theorem dX12_isNear_44 : decode cX12_isNear 44 = .ok (.iload_n 2, 1) := by decide +kernel
theorem dX12_isNear_45 : decode cX12_isNear 45 = .ok (.bipush 6, 2) := by decide +kernel
theorem dX12_isNear_47 : decode cX12_isNear 47 = .ok (.invokevirtual 248, 3) := by decide +kernel
theorem dX12_isNear_50 : decode cX12_isNear 50 = .ok (.isub, 1) := by decide +kernel
theorem dX12_isNear_51 : decode cX12_isNear 51 = .ok (.i2l, 1) := by decide +kernel
theorem dX12_isNear_52 : decode cX12_isNear 52 = .ok (.lstore 8, 2) := by decide +kernel
theorem dX12_isNear_54 : decode cX12_isNear 54 = .ok (.aload_n 0, 1) := by decide +kernel
theorem dX12_isNear_55 : decode cX12_isNear 55 = .ok (.iload_n 2, 1) := by decide +kernel
theorem dX12_isNear_56 : decode cX12_isNear 56 = .ok (.bipush 9, 2) := by decide +kernel
theorem dX12_isNear_58 : decode cX12_isNear 58 = .ok (.invokevirtual 248, 3) := by decide +kernel
theorem dX12_isNear_61 : decode cX12_isNear 61 = .ok (.aload_n 0, 1) := by decide +kernel
theorem dX12_isNear_62 : decode cX12_isNear 62 = .ok (.iload_n 2, 1) := by decide +kernel
theorem dX12_isNear_63 : decode cX12_isNear 63 = .ok (.bipush 7, 2) := by decide +kernel
theorem dX12_isNear_65 : decode cX12_isNear 65 = .ok (.invokevirtual 248, 3) := by decide +kernel
theorem dX12_isNear_68 : decode cX12_isNear 68 = .ok (.isub, 1) := by decide +kernel
theorem dX12_isNear_69 : decode cX12_isNear 69 = .ok (.i2l, 1) := by decide +kernel
theorem dX12_isNear_70 : decode cX12_isNear 70 = .ok (.lstore 10, 2) := by decide +kernel
theorem dX12_isNear_72 : decode cX12_isNear 72 = .ok (.lload 8, 2) := by decide +kernel
theorem dX12_isNear_74 : decode cX12_isNear 74 = .ok (.lload 8, 2) := by decide +kernel
theorem dX12_isNear_76 : decode cX12_isNear 76 = .ok (.lmul, 1) := by decide +kernel
theorem dX12_isNear_77 : decode cX12_isNear 77 = .ok (.lload 10, 2) := by decide +kernel
theorem dX12_isNear_79 : decode cX12_isNear 79 = .ok (.lload 10, 2) := by decide +kernel
theorem dX12_isNear_81 : decode cX12_isNear 81 = .ok (.lmul, 1) := by decide +kernel
theorem dX12_isNear_82 : decode cX12_isNear 82 = .ok (.ladd, 1) := by decide +kernel
theorem dX12_isNear_83 : decode cX12_isNear 83 = .ok (.lstore 12, 2) := by decide +kernel
theorem dX12_isNear_85 : decode cX12_isNear 85 = .ok (.lload 4, 2) := by decide +kernel
theorem dX12_isNear_87 : decode cX12_isNear 87 = .ok (.lload 8, 2) := by decide +kernel
theorem dX12_isNear_89 : decode cX12_isNear 89 = .ok (.lmul, 1) := by decide +kernel
theorem dX12_isNear_90 : decode cX12_isNear 90 = .ok (.lload 6, 2) := by decide +kernel
theorem dX12_isNear_92 : decode cX12_isNear 92 = .ok (.lload 10, 2) := by decide +kernel
theorem dX12_isNear_94 : decode cX12_isNear 94 = .ok (.lmul, 1) := by decide +kernel
theorem dX12_isNear_95 : decode cX12_isNear 95 = .ok (.ladd, 1) := by decide +kernel
theorem dX12_isNear_96 : decode cX12_isNear 96 = .ok (.lstore 14, 2) := by decide +kernel
theorem dX12_isNear_98 : decode cX12_isNear 98 = .ok (.iload_n 3, 1) := by decide +kernel
theorem dX12_isNear_99 : decode cX12_isNear 99 = .ok (.i2l, 1) := by decide +kernel
theorem dX12_isNear_100 : decode cX12_isNear 100 = .ok (.iload_n 3, 1) := by decide +kernel
theorem dX12_isNear_101 : decode cX12_isNear 101 = .ok (.i2l, 1) := by decide +kernel
theorem dX12_isNear_102 : decode cX12_isNear 102 = .ok (.lmul, 1) := by decide +kernel
theorem dX12_isNear_103 : decode cX12_isNear 103 = .ok (.lstore 16, 2) := by decide +kernel
theorem dX12_isNear_105 : decode cX12_isNear 105 = .ok (.lload 14, 2) := by decide +kernel
theorem dX12_isNear_107 : decode cX12_isNear 107 = .ok (.lconst 0, 1) := by decide +kernel
theorem dX12_isNear_108 : decode cX12_isNear 108 = .ok (.lcmp, 1) := by decide +kernel
theorem dX12_isNear_109 : decode cX12_isNear 109 = .ok (.ifCond .gt 26, 3) := by decide +kernel
theorem dX12_isNear_112 : decode cX12_isNear 112 = .ok (.lload 4, 2) := by decide +kernel
theorem dX12_isNear_114 : decode cX12_isNear 114 = .ok (.lload 4, 2) := by decide +kernel
theorem dX12_isNear_116 : decode cX12_isNear 116 = .ok (.lmul, 1) := by decide +kernel
theorem dX12_isNear_117 : decode cX12_isNear 117 = .ok (.lload 6, 2) := by decide +kernel
theorem dX12_isNear_119 : decode cX12_isNear 119 = .ok (.lload 6, 2) := by decide +kernel
theorem dX12_isNear_121 : decode cX12_isNear 121 = .ok (.lmul, 1) := by decide +kernel
theorem dX12_isNear_122 : decode cX12_isNear 122 = .ok (.ladd, 1) := by decide +kernel
theorem dX12_isNear_123 : decode cX12_isNear 123 = .ok (.lload 16, 2) := by decide +kernel
theorem dX12_isNear_125 : decode cX12_isNear 125 = .ok (.lcmp, 1) := by decide +kernel
theorem dX12_isNear_126 : decode cX12_isNear 126 = .ok (.ifCond .gt 7, 3) := by decide +kernel
theorem dX12_isNear_129 : decode cX12_isNear 129 = .ok (.iconst 1, 1) := by decide +kernel
theorem dX12_isNear_130 : decode cX12_isNear 130 = .ok (.goto 4, 3) := by decide +kernel
theorem dX12_isNear_133 : decode cX12_isNear 133 = .ok (.iconst 0, 1) := by decide +kernel
theorem dX12_isNear_134 : decode cX12_isNear 134 = .ok (.ireturn, 1) := by decide +kernel
theorem dX12_isNear_135 : decode cX12_isNear 135 = .ok (.lload 14, 2) := by decide +kernel
theorem dX12_isNear_137 : decode cX12_isNear 137 = .ok (.lload 12, 2) := by decide +kernel
theorem dX12_isNear_139 : decode cX12_isNear 139 = .ok (.lcmp, 1) := by decide +kernel
theorem dX12_isNear_140 : decode cX12_isNear 140 = .ok (.ifCond .lt 38, 3) := by decide +kernel
theorem dX12_isNear_143 : decode cX12_isNear 143 = .ok (.lload 4, 2) := by decide +kernel
theorem dX12_isNear_145 : decode cX12_isNear 145 = .ok (.lload 8, 2) := by decide +kernel
theorem dX12_isNear_147 : decode cX12_isNear 147 = .ok (.lsub, 1) := by decide +kernel
theorem dX12_isNear_148 : decode cX12_isNear 148 = .ok (.lload 4, 2) := by decide +kernel
theorem dX12_isNear_150 : decode cX12_isNear 150 = .ok (.lload 8, 2) := by decide +kernel
theorem dX12_isNear_152 : decode cX12_isNear 152 = .ok (.lsub, 1) := by decide +kernel
theorem dX12_isNear_153 : decode cX12_isNear 153 = .ok (.lmul, 1) := by decide +kernel
theorem dX12_isNear_154 : decode cX12_isNear 154 = .ok (.lload 6, 2) := by decide +kernel
theorem dX12_isNear_156 : decode cX12_isNear 156 = .ok (.lload 10, 2) := by decide +kernel
theorem dX12_isNear_158 : decode cX12_isNear 158 = .ok (.lsub, 1) := by decide +kernel
theorem dX12_isNear_159 : decode cX12_isNear 159 = .ok (.lload 6, 2) := by decide +kernel
theorem dX12_isNear_161 : decode cX12_isNear 161 = .ok (.lload 10, 2) := by decide +kernel
theorem dX12_isNear_163 : decode cX12_isNear 163 = .ok (.lsub, 1) := by decide +kernel
theorem dX12_isNear_164 : decode cX12_isNear 164 = .ok (.lmul, 1) := by decide +kernel
theorem dX12_isNear_165 : decode cX12_isNear 165 = .ok (.ladd, 1) := by decide +kernel
theorem dX12_isNear_166 : decode cX12_isNear 166 = .ok (.lload 16, 2) := by decide +kernel
theorem dX12_isNear_168 : decode cX12_isNear 168 = .ok (.lcmp, 1) := by decide +kernel
theorem dX12_isNear_169 : decode cX12_isNear 169 = .ok (.ifCond .gt 7, 3) := by decide +kernel
theorem dX12_isNear_172 : decode cX12_isNear 172 = .ok (.iconst 1, 1) := by decide +kernel
theorem dX12_isNear_173 : decode cX12_isNear 173 = .ok (.goto 4, 3) := by decide +kernel
theorem dX12_isNear_176 : decode cX12_isNear 176 = .ok (.iconst 0, 1) := by decide +kernel
theorem dX12_isNear_177 : decode cX12_isNear 177 = .ok (.ireturn, 1) := by decide +kernel
theorem dX12_isNear_178 : decode cX12_isNear 178 = .ok (.lload 4, 2) := by decide +kernel
theorem dX12_isNear_180 : decode cX12_isNear 180 = .ok (.lload 10, 2) := by decide +kernel
theorem dX12_isNear_182 : decode cX12_isNear 182 = .ok (.lmul, 1) := by decide +kernel
theorem dX12_isNear_183 : decode cX12_isNear 183 = .ok (.lload 6, 2) := by decide +kernel
theorem dX12_isNear_185 : decode cX12_isNear 185 = .ok (.lload 8, 2) := by decide +kernel
theorem dX12_isNear_187 : decode cX12_isNear 187 = .ok (.lmul, 1) := by decide +kernel
theorem dX12_isNear_188 : decode cX12_isNear 188 = .ok (.lsub, 1) := by decide +kernel
theorem dX12_isNear_189 : decode cX12_isNear 189 = .ok (.lstore 18, 2) := by decide +kernel
theorem dX12_isNear_191 : decode cX12_isNear 191 = .ok (.lload 18, 2) := by decide +kernel
theorem dX12_isNear_193 : decode cX12_isNear 193 = .ok (.lload 18, 2) := by decide +kernel
theorem dX12_isNear_195 : decode cX12_isNear 195 = .ok (.lmul, 1) := by decide +kernel
theorem dX12_isNear_196 : decode cX12_isNear 196 = .ok (.lload 16, 2) := by decide +kernel
theorem dX12_isNear_198 : decode cX12_isNear 198 = .ok (.lload 12, 2) := by decide +kernel
theorem dX12_isNear_200 : decode cX12_isNear 200 = .ok (.lmul, 1) := by decide +kernel
theorem dX12_isNear_201 : decode cX12_isNear 201 = .ok (.lcmp, 1) := by decide +kernel
theorem dX12_isNear_202 : decode cX12_isNear 202 = .ok (.ifCond .gt 7, 3) := by decide +kernel
theorem dX12_isNear_205 : decode cX12_isNear 205 = .ok (.iconst 1, 1) := by decide +kernel
theorem dX12_isNear_206 : decode cX12_isNear 206 = .ok (.goto 4, 3) := by decide +kernel
theorem dX12_isNear_209 : decode cX12_isNear 209 = .ok (.iconst 0, 1) := by decide +kernel
theorem dX12_isNear_210 : decode cX12_isNear 210 = .ok (.ireturn, 1) := by decide +kernel
def f_X12_isNear (N : Nat) (R : Nat → Nat → Nat) (σ : SI) (x0 : Nat) (x1 : Int32) (x2 : Int32) (x3 : Int32) : Option (Int32 × SI) := bd (f_X12_ofBlast N R σ x0 x1 (6 : Int32)) (fun a1 σ1 => bd (f_X12_ofRoad N R σ1 x0 x2 (6 : Int32)) (fun a2 σ2 => bd (f_X12_ofBlast N R σ2 x0 x1 (7 : Int32)) (fun a3 σ3 => bd (f_X12_ofRoad N R σ3 x0 x2 (7 : Int32)) (fun a4 σ4 => bd (f_X12_ofRoad N R σ4 x0 x2 (8 : Int32)) (fun a5 σ5 => bd (f_X12_ofRoad N R σ5 x0 x2 (6 : Int32)) (fun a6 σ6 => bd (f_X12_ofRoad N R σ6 x0 x2 (9 : Int32)) (fun a7 σ7 => bd (f_X12_ofRoad N R σ7 x0 x2 (7 : Int32)) (fun a8 σ8 => if 0 < (lg_cmp ((((a1 - a2).toInt64) * ((a5 - a6).toInt64)) + (((a3 - a4).toInt64) * ((a7 - a8).toInt64))) (0 : Int64)) then (if (lg_cmp ((((a1 - a2).toInt64) * ((a5 - a6).toInt64)) + (((a3 - a4).toInt64) * ((a7 - a8).toInt64))) ((((a5 - a6).toInt64) * ((a5 - a6).toInt64)) + (((a7 - a8).toInt64) * ((a7 - a8).toInt64)))) < 0 then (if 0 < (lg_cmp (((((a1 - a2).toInt64) * ((a7 - a8).toInt64)) - (((a3 - a4).toInt64) * ((a5 - a6).toInt64))) * ((((a1 - a2).toInt64) * ((a7 - a8).toInt64)) - (((a3 - a4).toInt64) * ((a5 - a6).toInt64)))) ((x3.toInt64 * x3.toInt64) * ((((a5 - a6).toInt64) * ((a5 - a6).toInt64)) + (((a7 - a8).toInt64) * ((a7 - a8).toInt64))))) then (some ((0 : Int32), σ8)) else (some ((1 : Int32), σ8))) else (if 0 < (lg_cmp (((((a1 - a2).toInt64) - ((a5 - a6).toInt64)) * (((a1 - a2).toInt64) - ((a5 - a6).toInt64))) + ((((a3 - a4).toInt64) - ((a7 - a8).toInt64)) * (((a3 - a4).toInt64) - ((a7 - a8).toInt64)))) (x3.toInt64 * x3.toInt64)) then (some ((0 : Int32), σ8)) else (some ((1 : Int32), σ8)))) else (if 0 < (lg_cmp ((((a1 - a2).toInt64) * ((a1 - a2).toInt64)) + (((a3 - a4).toInt64) * ((a3 - a4).toInt64))) (x3.toInt64 * x3.toInt64)) then (some ((0 : Int32), σ8)) else (some ((1 : Int32), σ8)))))))))))
set_option maxHeartbeats 4000000 in
set_option maxRecDepth 100000 in
theorem ok_X12_isNear {l : Launch} {g : GL} {R : Nat → Nat → Nat} {L : Nat → Nat → Int64} {N : Nat} {σ : SI} {x0 : Nat} {x1 : Int32} {x2 : Int32} {x3 : Int32} {r : (Int32 × SI)} (h : f_X12_isNear N R σ x0 x1 x2 x3 = some r) (hSh : ShR R) (hx0 : Ok 194 x0 12) : Ct l g 2 yX12_isNear cX12_isNear 20 (some .boolean) 194 194 0 0 [.ref (gb g + x0), .int x1, .int x2, .int x3] (mkS σ R L) (PI R L r) := by
  refine Met.ofW (cc := cX12_isNear) (maxL := 20) (ret := (some .boolean)) (by decide) rfl ?_
  intro p e s m args below meth c s₁ B hml hv
  obtain ⟨rfl, hE, hLo, hWd⟩ := hv
  have hr : meth.sig.returnType = (some .boolean) := B.returns
  have C : Cx l g p s m meth c cX12_isNear 20 RX12 := ⟨B.exec, B.bytes, hml, findClass_of_methodNamed B.named, hE, hLo, B.notSynchronized⟩
  have S : S2 g s σ R L s.heap [] := ⟨hWd, va_S.rf⟩
  have hx := C.1
  have hb := C.2.1
  have hl := lv_entry ([.ref (gb g + x0), .int x1, .int x2, .int x3]) (n := 20) (Nat.le_of_ble_eq_true rfl)
  rw [lg_entry_eq]
  generalize (lg_sl ([.ref (gb g + x0), .int x1, .int x2, .int x3]) ++ List.replicate (20 - (lg_sl ([.ref (gb g + x0), .int x1, .int x2, .int x3])).length) Slot.unset).toArray = ls at hl ⊢
  have hl : lv_has ls 20 [(0, .ref (gb g + x0)), (1, .int x1), (2, .int x2), (3, .int x3)] := hl
  generalize hH : s.heap = H at S ⊢
  generalize hlc : ([] : List Loc) = locs at S ⊢
  rw [f_X12_isNear] at h
  refine lv_aload_n hx hb dX12_isNear_0 rfl (lv_at hl 0 rfl) ?_
  refine lv_iload_n hx hb dX12_isNear_1 rfl (lv_at hl 1 rfl) ?_
  refine lv_bipush (v := (6 : Int32)) hx hb dX12_isNear_2 (by decide) ?_
  obtain ⟨a1, σ1, hc1, h⟩ := bd_el h
  refine x_callVI C S KX12 hx0 (ok_X12_ofBlast (L := L) hc1 hSh hx0) ⟨cd_X12_ofBlast, ni_RX12, ml_RX12_192, in_X12_ofBlast, sl_X12_ofBlast⟩ ⟨by decide, by decide⟩ rfl ⟨by decide, by decide⟩ hl.1 rfl (Nat.le_of_ble_eq_true rfl) ⟨by decide, by decide⟩ dX12_isNear_4 (fun H locs S => ?_)
  refine lv_aload_n hx hb dX12_isNear_7 rfl (lv_at hl 0 rfl) ?_
  refine lv_iload_n hx hb dX12_isNear_8 rfl (lv_at hl 2 rfl) ?_
  refine lv_bipush (v := (6 : Int32)) hx hb dX12_isNear_9 (by decide) ?_
  obtain ⟨a2, σ2, hc2, h⟩ := bd_el h
  refine x_callVI C S KX12 hx0 (ok_X12_ofRoad (L := L) hc2 hSh hx0) ⟨cd_X12_ofRoad, ni_RX12, ml_RX12_248, in_X12_ofRoad, sl_X12_ofRoad⟩ ⟨by decide, by decide⟩ rfl ⟨by decide, by decide⟩ hl.1 rfl (Nat.le_of_ble_eq_true rfl) ⟨by decide, by decide⟩ dX12_isNear_11 (fun H locs S => ?_)
  refine lv_isub hx hb dX12_isNear_14 ?_
  refine lv_i2l hx hb dX12_isNear_15 rfl ?_
  refine lv_lstore (lv' := [(4, .long ((a1 - a2).toInt64)), (0, .ref (gb g + x0)), (1, .int x1), (2, .int x2), (3, .int x3)]) hx hb dX12_isNear_16 hl (by decide) rfl (fun ls hl => ?_)
  refine lv_aload_n hx hb dX12_isNear_18 rfl (lv_at hl 1 rfl) ?_
  refine lv_iload_n hx hb dX12_isNear_19 rfl (lv_at hl 2 rfl) ?_
  refine lv_bipush (v := (7 : Int32)) hx hb dX12_isNear_20 (by decide) ?_
  obtain ⟨a3, σ3, hc3, h⟩ := bd_el h
  refine x_callVI C S KX12 hx0 (ok_X12_ofBlast (L := L) hc3 hSh hx0) ⟨cd_X12_ofBlast, ni_RX12, ml_RX12_192, in_X12_ofBlast, sl_X12_ofBlast⟩ ⟨by decide, by decide⟩ rfl ⟨by decide, by decide⟩ hl.1 rfl (Nat.le_of_ble_eq_true rfl) ⟨by decide, by decide⟩ dX12_isNear_22 (fun H locs S => ?_)
  refine lv_aload_n hx hb dX12_isNear_25 rfl (lv_at hl 1 rfl) ?_
  refine lv_iload_n hx hb dX12_isNear_26 rfl (lv_at hl 3 rfl) ?_
  refine lv_bipush (v := (7 : Int32)) hx hb dX12_isNear_27 (by decide) ?_
  obtain ⟨a4, σ4, hc4, h⟩ := bd_el h
  refine x_callVI C S KX12 hx0 (ok_X12_ofRoad (L := L) hc4 hSh hx0) ⟨cd_X12_ofRoad, ni_RX12, ml_RX12_248, in_X12_ofRoad, sl_X12_ofRoad⟩ ⟨by decide, by decide⟩ rfl ⟨by decide, by decide⟩ hl.1 rfl (Nat.le_of_ble_eq_true rfl) ⟨by decide, by decide⟩ dX12_isNear_29 (fun H locs S => ?_)
  refine lv_isub hx hb dX12_isNear_32 ?_
  refine lv_i2l hx hb dX12_isNear_33 rfl ?_
  refine lv_lstore (lv' := [(6, .long ((a3 - a4).toInt64)), (4, .long ((a1 - a2).toInt64)), (0, .ref (gb g + x0)), (1, .int x1), (2, .int x2), (3, .int x3)]) hx hb dX12_isNear_34 hl (by decide) rfl (fun ls hl => ?_)
  refine lv_aload_n hx hb dX12_isNear_36 rfl (lv_at hl 2 rfl) ?_
  refine lv_iload_n hx hb dX12_isNear_37 rfl (lv_at hl 4 rfl) ?_
  refine lv_bipush (v := (8 : Int32)) hx hb dX12_isNear_38 (by decide) ?_
  obtain ⟨a5, σ5, hc5, h⟩ := bd_el h
  refine x_callVI C S KX12 hx0 (ok_X12_ofRoad (L := L) hc5 hSh hx0) ⟨cd_X12_ofRoad, ni_RX12, ml_RX12_248, in_X12_ofRoad, sl_X12_ofRoad⟩ ⟨by decide, by decide⟩ rfl ⟨by decide, by decide⟩ hl.1 rfl (Nat.le_of_ble_eq_true rfl) ⟨by decide, by decide⟩ dX12_isNear_40 (fun H locs S => ?_)
  refine lv_aload_n hx hb dX12_isNear_43 rfl (lv_at hl 2 rfl) ?_
  refine lv_iload_n hx hb dX12_isNear_44 rfl (lv_at hl 4 rfl) ?_
  refine lv_bipush (v := (6 : Int32)) hx hb dX12_isNear_45 (by decide) ?_
  obtain ⟨a6, σ6, hc6, h⟩ := bd_el h
  refine x_callVI C S KX12 hx0 (ok_X12_ofRoad (L := L) hc6 hSh hx0) ⟨cd_X12_ofRoad, ni_RX12, ml_RX12_248, in_X12_ofRoad, sl_X12_ofRoad⟩ ⟨by decide, by decide⟩ rfl ⟨by decide, by decide⟩ hl.1 rfl (Nat.le_of_ble_eq_true rfl) ⟨by decide, by decide⟩ dX12_isNear_47 (fun H locs S => ?_)
  refine lv_isub hx hb dX12_isNear_50 ?_
  refine lv_i2l hx hb dX12_isNear_51 rfl ?_
  refine lv_lstore (lv' := [(8, .long ((a5 - a6).toInt64)), (6, .long ((a3 - a4).toInt64)), (4, .long ((a1 - a2).toInt64)), (0, .ref (gb g + x0)), (1, .int x1), (2, .int x2), (3, .int x3)]) hx hb dX12_isNear_52 hl (by decide) rfl (fun ls hl => ?_)
  refine lv_aload_n hx hb dX12_isNear_54 rfl (lv_at hl 3 rfl) ?_
  refine lv_iload_n hx hb dX12_isNear_55 rfl (lv_at hl 5 rfl) ?_
  refine lv_bipush (v := (9 : Int32)) hx hb dX12_isNear_56 (by decide) ?_
  obtain ⟨a7, σ7, hc7, h⟩ := bd_el h
  refine x_callVI C S KX12 hx0 (ok_X12_ofRoad (L := L) hc7 hSh hx0) ⟨cd_X12_ofRoad, ni_RX12, ml_RX12_248, in_X12_ofRoad, sl_X12_ofRoad⟩ ⟨by decide, by decide⟩ rfl ⟨by decide, by decide⟩ hl.1 rfl (Nat.le_of_ble_eq_true rfl) ⟨by decide, by decide⟩ dX12_isNear_58 (fun H locs S => ?_)
  refine lv_aload_n hx hb dX12_isNear_61 rfl (lv_at hl 3 rfl) ?_
  refine lv_iload_n hx hb dX12_isNear_62 rfl (lv_at hl 5 rfl) ?_
  refine lv_bipush (v := (7 : Int32)) hx hb dX12_isNear_63 (by decide) ?_
  obtain ⟨a8, σ8, hc8, h⟩ := bd_el h
  refine x_callVI C S KX12 hx0 (ok_X12_ofRoad (L := L) hc8 hSh hx0) ⟨cd_X12_ofRoad, ni_RX12, ml_RX12_248, in_X12_ofRoad, sl_X12_ofRoad⟩ ⟨by decide, by decide⟩ rfl ⟨by decide, by decide⟩ hl.1 rfl (Nat.le_of_ble_eq_true rfl) ⟨by decide, by decide⟩ dX12_isNear_65 (fun H locs S => ?_)
  refine lv_isub hx hb dX12_isNear_68 ?_
  refine lv_i2l hx hb dX12_isNear_69 rfl ?_
  refine lv_lstore (lv' := [(10, .long ((a7 - a8).toInt64)), (8, .long ((a5 - a6).toInt64)), (6, .long ((a3 - a4).toInt64)), (4, .long ((a1 - a2).toInt64)), (0, .ref (gb g + x0)), (1, .int x1), (2, .int x2), (3, .int x3)]) hx hb dX12_isNear_70 hl (by decide) rfl (fun ls hl => ?_)
  refine lv_lload hx hb dX12_isNear_72 (lv_at hl 1 rfl) ?_
  refine lv_lload hx hb dX12_isNear_74 (lv_at hl 1 rfl) ?_
  refine lv_lmul hx hb dX12_isNear_76 ?_
  refine lv_lload hx hb dX12_isNear_77 (lv_at hl 0 rfl) ?_
  refine lv_lload hx hb dX12_isNear_79 (lv_at hl 0 rfl) ?_
  refine lv_lmul hx hb dX12_isNear_81 ?_
  refine lv_ladd hx hb dX12_isNear_82 ?_
  refine lv_lstore (lv' := [(12, .long ((((a5 - a6).toInt64) * ((a5 - a6).toInt64)) + (((a7 - a8).toInt64) * ((a7 - a8).toInt64)))), (10, .long ((a7 - a8).toInt64)), (8, .long ((a5 - a6).toInt64)), (6, .long ((a3 - a4).toInt64)), (4, .long ((a1 - a2).toInt64)), (0, .ref (gb g + x0)), (1, .int x1), (2, .int x2), (3, .int x3)]) hx hb dX12_isNear_83 hl (by decide) rfl (fun ls hl => ?_)
  refine lv_lload hx hb dX12_isNear_85 (lv_at hl 4 rfl) ?_
  refine lv_lload hx hb dX12_isNear_87 (lv_at hl 2 rfl) ?_
  refine lv_lmul hx hb dX12_isNear_89 ?_
  refine lv_lload hx hb dX12_isNear_90 (lv_at hl 3 rfl) ?_
  refine lv_lload hx hb dX12_isNear_92 (lv_at hl 1 rfl) ?_
  refine lv_lmul hx hb dX12_isNear_94 ?_
  refine lv_ladd hx hb dX12_isNear_95 ?_
  refine lv_lstore (lv' := [(14, .long ((((a1 - a2).toInt64) * ((a5 - a6).toInt64)) + (((a3 - a4).toInt64) * ((a7 - a8).toInt64)))), (12, .long ((((a5 - a6).toInt64) * ((a5 - a6).toInt64)) + (((a7 - a8).toInt64) * ((a7 - a8).toInt64)))), (10, .long ((a7 - a8).toInt64)), (8, .long ((a5 - a6).toInt64)), (6, .long ((a3 - a4).toInt64)), (4, .long ((a1 - a2).toInt64)), (0, .ref (gb g + x0)), (1, .int x1), (2, .int x2), (3, .int x3)]) hx hb dX12_isNear_96 hl (by decide) rfl (fun ls hl => ?_)
  refine lv_iload_n hx hb dX12_isNear_98 rfl (lv_at hl 9 rfl) ?_
  refine lv_i2l hx hb dX12_isNear_99 rfl ?_
  refine lv_iload_n hx hb dX12_isNear_100 rfl (lv_at hl 9 rfl) ?_
  refine lv_i2l hx hb dX12_isNear_101 rfl ?_
  refine lv_lmul hx hb dX12_isNear_102 ?_
  refine lv_lstore (lv' := [(16, .long (x3.toInt64 * x3.toInt64)), (14, .long ((((a1 - a2).toInt64) * ((a5 - a6).toInt64)) + (((a3 - a4).toInt64) * ((a7 - a8).toInt64)))), (12, .long ((((a5 - a6).toInt64) * ((a5 - a6).toInt64)) + (((a7 - a8).toInt64) * ((a7 - a8).toInt64)))), (10, .long ((a7 - a8).toInt64)), (8, .long ((a5 - a6).toInt64)), (6, .long ((a3 - a4).toInt64)), (4, .long ((a1 - a2).toInt64)), (0, .ref (gb g + x0)), (1, .int x1), (2, .int x2), (3, .int x3)]) hx hb dX12_isNear_103 hl (by decide) rfl (fun ls hl => ?_)
  refine lv_lload hx hb dX12_isNear_105 (lv_at hl 1 rfl) ?_
  refine lv_lconst (v := (0 : Int64)) hx hb dX12_isNear_107 (by decide) ?_
  refine W.lcmp hx hb dX12_isNear_108 ?_
  refine lv_if_gt (tgt := 135) hx hb dX12_isNear_109 (by decide) (fun c9 => ?_) (fun c9 => ?_)
  · have h := it_p c9 h
    refine lv_lload hx hb dX12_isNear_135 (lv_at hl 1 rfl) ?_
    refine lv_lload hx hb dX12_isNear_137 (lv_at hl 2 rfl) ?_
    refine W.lcmp hx hb dX12_isNear_139 ?_
    refine lv_if_lt (tgt := 178) hx hb dX12_isNear_140 (by decide) (fun c10 => ?_) (fun c10 => ?_)
    · have h := it_p c10 h
      refine lv_lload hx hb dX12_isNear_178 (lv_at hl 6 rfl) ?_
      refine lv_lload hx hb dX12_isNear_180 (lv_at hl 3 rfl) ?_
      refine lv_lmul hx hb dX12_isNear_182 ?_
      refine lv_lload hx hb dX12_isNear_183 (lv_at hl 5 rfl) ?_
      refine lv_lload hx hb dX12_isNear_185 (lv_at hl 4 rfl) ?_
      refine lv_lmul hx hb dX12_isNear_187 ?_
      refine lv_lsub hx hb dX12_isNear_188 ?_
      refine lv_lstore (lv' := [(18, .long ((((a1 - a2).toInt64) * ((a7 - a8).toInt64)) - (((a3 - a4).toInt64) * ((a5 - a6).toInt64)))), (16, .long (x3.toInt64 * x3.toInt64)), (14, .long ((((a1 - a2).toInt64) * ((a5 - a6).toInt64)) + (((a3 - a4).toInt64) * ((a7 - a8).toInt64)))), (12, .long ((((a5 - a6).toInt64) * ((a5 - a6).toInt64)) + (((a7 - a8).toInt64) * ((a7 - a8).toInt64)))), (10, .long ((a7 - a8).toInt64)), (8, .long ((a5 - a6).toInt64)), (6, .long ((a3 - a4).toInt64)), (4, .long ((a1 - a2).toInt64)), (0, .ref (gb g + x0)), (1, .int x1), (2, .int x2), (3, .int x3)]) hx hb dX12_isNear_189 hl (by decide) rfl (fun ls hl => ?_)
      refine lv_lload hx hb dX12_isNear_191 (lv_at hl 0 rfl) ?_
      refine lv_lload hx hb dX12_isNear_193 (lv_at hl 0 rfl) ?_
      refine lv_lmul hx hb dX12_isNear_195 ?_
      refine lv_lload hx hb dX12_isNear_196 (lv_at hl 1 rfl) ?_
      refine lv_lload hx hb dX12_isNear_198 (lv_at hl 3 rfl) ?_
      refine lv_lmul hx hb dX12_isNear_200 ?_
      refine W.lcmp hx hb dX12_isNear_201 ?_
      refine lv_if_gt (tgt := 209) hx hb dX12_isNear_202 (by decide) (fun c11 => ?_) (fun c11 => ?_)
      · have h := it_p c11 h
        refine lv_iconst (v := (0 : Int32)) hx hb dX12_isNear_209 (by decide) ?_
        exact x_zret C S hr (by decide) h dX12_isNear_210
      · have h := it_n c11 h
        refine lv_iconst (v := (1 : Int32)) hx hb dX12_isNear_205 (by decide) ?_
        refine lv_goto (tgt := 210) hx hb dX12_isNear_206 (by decide) ?_
        exact x_zret C S hr (by decide) h dX12_isNear_210
    · have h := it_n c10 h
      refine lv_lload hx hb dX12_isNear_143 (lv_at hl 6 rfl) ?_
      refine lv_lload hx hb dX12_isNear_145 (lv_at hl 4 rfl) ?_
      refine lv_lsub hx hb dX12_isNear_147 ?_
      refine lv_lload hx hb dX12_isNear_148 (lv_at hl 6 rfl) ?_
      refine lv_lload hx hb dX12_isNear_150 (lv_at hl 4 rfl) ?_
      refine lv_lsub hx hb dX12_isNear_152 ?_
      refine lv_lmul hx hb dX12_isNear_153 ?_
      refine lv_lload hx hb dX12_isNear_154 (lv_at hl 5 rfl) ?_
      refine lv_lload hx hb dX12_isNear_156 (lv_at hl 3 rfl) ?_
      refine lv_lsub hx hb dX12_isNear_158 ?_
      refine lv_lload hx hb dX12_isNear_159 (lv_at hl 5 rfl) ?_
      refine lv_lload hx hb dX12_isNear_161 (lv_at hl 3 rfl) ?_
      refine lv_lsub hx hb dX12_isNear_163 ?_
      refine lv_lmul hx hb dX12_isNear_164 ?_
      refine lv_ladd hx hb dX12_isNear_165 ?_
      refine lv_lload hx hb dX12_isNear_166 (lv_at hl 0 rfl) ?_
      refine W.lcmp hx hb dX12_isNear_168 ?_
      refine lv_if_gt (tgt := 176) hx hb dX12_isNear_169 (by decide) (fun c12 => ?_) (fun c12 => ?_)
      · have h := it_p c12 h
        refine lv_iconst (v := (0 : Int32)) hx hb dX12_isNear_176 (by decide) ?_
        exact x_zret C S hr (by decide) h dX12_isNear_177
      · have h := it_n c12 h
        refine lv_iconst (v := (1 : Int32)) hx hb dX12_isNear_172 (by decide) ?_
        refine lv_goto (tgt := 177) hx hb dX12_isNear_173 (by decide) ?_
        exact x_zret C S hr (by decide) h dX12_isNear_177
  · have h := it_n c9 h
    refine lv_lload hx hb dX12_isNear_112 (lv_at hl 6 rfl) ?_
    refine lv_lload hx hb dX12_isNear_114 (lv_at hl 6 rfl) ?_
    refine lv_lmul hx hb dX12_isNear_116 ?_
    refine lv_lload hx hb dX12_isNear_117 (lv_at hl 5 rfl) ?_
    refine lv_lload hx hb dX12_isNear_119 (lv_at hl 5 rfl) ?_
    refine lv_lmul hx hb dX12_isNear_121 ?_
    refine lv_ladd hx hb dX12_isNear_122 ?_
    refine lv_lload hx hb dX12_isNear_123 (lv_at hl 0 rfl) ?_
    refine W.lcmp hx hb dX12_isNear_125 ?_
    refine lv_if_gt (tgt := 133) hx hb dX12_isNear_126 (by decide) (fun c13 => ?_) (fun c13 => ?_)
    · have h := it_p c13 h
      refine lv_iconst (v := (0 : Int32)) hx hb dX12_isNear_133 (by decide) ?_
      exact x_zret C S hr (by decide) h dX12_isNear_134
    · have h := it_n c13 h
      refine lv_iconst (v := (1 : Int32)) hx hb dX12_isNear_129 (by decide) ?_
      refine lv_goto (tgt := 134) hx hb dX12_isNear_130 (by decide) ?_
      exact x_zret C S hr (by decide) h dX12_isNear_134
theorem dX12_isShut_0 : decode cX12_isShut 0 = .ok (.aload_n 0, 1) := by decide +kernel
theorem dX12_isShut_1 : decode cX12_isShut 1 = .ok (.iload_n 1, 1) := by decide +kernel
theorem dX12_isShut_2 : decode cX12_isShut 2 = .ok (.iload_n 2, 1) := by decide +kernel
theorem dX12_isShut_3 : decode cX12_isShut 3 = .ok (.aload_n 0, 1) := by decide +kernel
theorem dX12_isShut_4 : decode cX12_isShut 4 = .ok (.iload_n 1, 1) := by decide +kernel
theorem dX12_isShut_5 : decode cX12_isShut 5 = .ok (.bipush 8, 2) := by decide +kernel
theorem dX12_isShut_7 : decode cX12_isShut 7 = .ok (.invokevirtual 192, 3) := by decide +kernel
theorem dX12_isShut_10 : decode cX12_isShut 10 = .ok (.invokevirtual 251, 3) := by decide +kernel
theorem dX12_isShut_13 : decode cX12_isShut 13 = .ok (.ireturn, 1) := by decide +kernel
def f_X12_isShut (N : Nat) (R : Nat → Nat → Nat) (σ : SI) (x0 : Nat) (x1 : Int32) (x2 : Int32) : Option (Int32 × SI) := bd (f_X12_ofBlast N R σ x0 x1 (8 : Int32)) (fun a1 σ1 => bd (f_X12_isNear N R σ1 x0 x1 x2 a1) (fun a2 σ2 => cb a2 (some (a2, σ2))))
set_option maxHeartbeats 4000000 in
set_option maxRecDepth 100000 in
theorem ok_X12_isShut {l : Launch} {g : GL} {R : Nat → Nat → Nat} {L : Nat → Nat → Int64} {N : Nat} {σ : SI} {x0 : Nat} {x1 : Int32} {x2 : Int32} {r : (Int32 × SI)} (h : f_X12_isShut N R σ x0 x1 x2 = some r) (hSh : ShR R) (hx0 : Ok 194 x0 12) : Ct l g 3 yX12_isShut cX12_isShut 3 (some .boolean) 194 194 0 0 [.ref (gb g + x0), .int x1, .int x2] (mkS σ R L) (PI R L r) := by
  refine Met.ofW (cc := cX12_isShut) (maxL := 3) (ret := (some .boolean)) (by decide) rfl ?_
  intro p e s m args below meth c s₁ B hml hv
  obtain ⟨rfl, hE, hLo, hWd⟩ := hv
  have hr : meth.sig.returnType = (some .boolean) := B.returns
  have C : Cx l g p s m meth c cX12_isShut 3 RX12 := ⟨B.exec, B.bytes, hml, findClass_of_methodNamed B.named, hE, hLo, B.notSynchronized⟩
  have S : S2 g s σ R L s.heap [] := ⟨hWd, va_S.rf⟩
  have hx := C.1
  have hb := C.2.1
  have hl := lv_entry ([.ref (gb g + x0), .int x1, .int x2]) (n := 3) (Nat.le_of_ble_eq_true rfl)
  rw [lg_entry_eq]
  generalize (lg_sl ([.ref (gb g + x0), .int x1, .int x2]) ++ List.replicate (3 - (lg_sl ([.ref (gb g + x0), .int x1, .int x2])).length) Slot.unset).toArray = ls at hl ⊢
  have hl : lv_has ls 3 [(0, .ref (gb g + x0)), (1, .int x1), (2, .int x2)] := hl
  generalize hH : s.heap = H at S ⊢
  generalize hlc : ([] : List Loc) = locs at S ⊢
  rw [f_X12_isShut] at h
  refine lv_aload_n hx hb dX12_isShut_0 rfl (lv_at hl 0 rfl) ?_
  refine lv_iload_n hx hb dX12_isShut_1 rfl (lv_at hl 1 rfl) ?_
  refine lv_iload_n hx hb dX12_isShut_2 rfl (lv_at hl 2 rfl) ?_
  refine lv_aload_n hx hb dX12_isShut_3 rfl (lv_at hl 0 rfl) ?_
  refine lv_iload_n hx hb dX12_isShut_4 rfl (lv_at hl 1 rfl) ?_
  refine lv_bipush (v := (8 : Int32)) hx hb dX12_isShut_5 (by decide) ?_
  obtain ⟨a1, σ1, hc1, h⟩ := bd_el h
  refine x_callVI C S KX12 hx0 (ok_X12_ofBlast (L := L) hc1 hSh hx0) ⟨cd_X12_ofBlast, ni_RX12, ml_RX12_192, in_X12_ofBlast, sl_X12_ofBlast⟩ ⟨by decide, by decide⟩ rfl ⟨by decide, by decide⟩ hl.1 rfl (Nat.le_of_ble_eq_true rfl) ⟨by decide, by decide⟩ dX12_isShut_7 (fun H locs S => ?_)
  obtain ⟨a2, σ2, hc2, h⟩ := bd_el h
  refine x_callVI C S KX12 hx0 (ok_X12_isNear (L := L) hc2 hSh hx0) ⟨cd_X12_isNear, ni_RX12, ml_RX12_251, in_X12_isNear, sl_X12_isNear⟩ ⟨by decide, by decide⟩ rfl ⟨by decide, by decide⟩ hl.1 rfl (Nat.le_of_ble_eq_true rfl) ⟨by decide, by decide⟩ dX12_isShut_10 (fun H locs S => ?_)
  obtain ⟨hb3, h⟩ := cb_el h
  exact x_zret C S hr hb3 h dX12_isShut_13
theorem dX12_shutBy_0 : decode cX12_shutBy 0 = .ok (.iconst 0, 1) := by decide +kernel
theorem dX12_shutBy_1 : decode cX12_shutBy 1 = .ok (.istore_n 2, 1) := by decide +kernel
theorem dX12_shutBy_2 : decode cX12_shutBy 2 = .ok (.iconst 0, 1) := by decide +kernel
theorem dX12_shutBy_3 : decode cX12_shutBy 3 = .ok (.istore_n 3, 1) := by decide +kernel
theorem dX12_shutBy_4 : decode cX12_shutBy 4 = .ok (.iload_n 3, 1) := by decide +kernel
theorem dX12_shutBy_5 : decode cX12_shutBy 5 = .ok (.aload_n 0, 1) := by decide +kernel
theorem dX12_shutBy_6 : decode cX12_shutBy 6 = .ok (.getfield 88, 3) := by decide +kernel
theorem dX12_shutBy_9 : decode cX12_shutBy 9 = .ok (.iconst 1, 1) := by decide +kernel
theorem dX12_shutBy_10 : decode cX12_shutBy 10 = .ok (.iaload, 1) := by decide +kernel
theorem dX12_shutBy_11 : decode cX12_shutBy 11 = .ok (.if_icmp .ge 28, 3) := by decide +kernel
theorem dX12_shutBy_14 : decode cX12_shutBy 14 = .ok (.iload_n 2, 1) := by decide +kernel
theorem dX12_shutBy_15 : decode cX12_shutBy 15 = .ok (.aload_n 0, 1) := by decide +kernel
theorem dX12_shutBy_16 : decode cX12_shutBy 16 = .ok (.iload_n 1, 1) := by decide +kernel
theorem dX12_shutBy_17 : decode cX12_shutBy 17 = .ok (.iload_n 3, 1) := by decide +kernel
theorem dX12_shutBy_18 : decode cX12_shutBy 18 = .ok (.invokevirtual 254, 3) := by decide +kernel
theorem dX12_shutBy_21 : decode cX12_shutBy 21 = .ok (.ifCond .eq 9, 3) := by decide +kernel
theorem dX12_shutBy_24 : decode cX12_shutBy 24 = .ok (.iconst 1, 1) := by decide +kernel
theorem dX12_shutBy_25 : decode cX12_shutBy 25 = .ok (.iload_n 3, 1) := by decide +kernel
theorem dX12_shutBy_26 : decode cX12_shutBy 26 = .ok (.ishl, 1) := by decide +kernel
theorem dX12_shutBy_27 : decode cX12_shutBy 27 = .ok (.goto 4, 3) := by decide +kernel
theorem dX12_shutBy_30 : decode cX12_shutBy 30 = .ok (.iconst 0, 1) := by decide +kernel
theorem dX12_shutBy_31 : decode cX12_shutBy 31 = .ok (.ior, 1) := by decide +kernel
theorem dX12_shutBy_32 : decode cX12_shutBy 32 = .ok (.istore_n 2, 1) := by decide +kernel
theorem dX12_shutBy_33 : decode cX12_shutBy 33 = .ok (.iinc 3 1, 3) := by decide +kernel
theorem dX12_shutBy_36 : decode cX12_shutBy 36 = .ok (.goto (-32), 3) := by decide +kernel
theorem dX12_shutBy_39 : decode cX12_shutBy 39 = .ok (.iload_n 2, 1) := by decide +kernel
theorem dX12_shutBy_40 : decode cX12_shutBy 40 = .ok (.ireturn, 1) := by decide +kernel
def f_X12_shutBy_4 (N : Nat) (R : Nat → Nat → Nat) : Nat → SI → Nat → Int32 → Int32 → Int32 → Option (Int32 × SI)
  | 0, _, _, _, _, _ => none
  | n + 1, σ, x0, x1, x2, x3 => ck (1 : Int32) 417 (if (σ (R x0 11) (1 : Int32).toNatClampNeg) ≤ x3 then (some (x2, σ)) else (bd (f_X12_isShut N R σ x0 x1 x3) (fun a4 σ4 => if a4 = 0 then (f_X12_shutBy_4 N R n σ4 x0 x1 (x2 ||| (0 : Int32)) (x3 + 1)) else (f_X12_shutBy_4 N R n σ4 x0 x1 (x2 ||| ((1 : Int32) <<< (x3 &&& 31))) (x3 + 1)))))
def f_X12_shutBy (N : Nat) (R : Nat → Nat → Nat) (σ : SI) (x0 : Nat) (x1 : Int32) : Option (Int32 × SI) := f_X12_shutBy_4 N R N σ x0 x1 (0 : Int32) (0 : Int32)
set_option maxHeartbeats 4000000 in
set_option maxRecDepth 100000 in
theorem w_X12_shutBy_4 {l : Launch} {g : GL} {p : Program} {e : Jvm.Env} {s : State} {m : MethodId} {args : Array Value} {below : List Frame} {meth : Method} {c : Code} {R : Nat → Nat → Nat} {L : Nat → Nat → Int64} {r : (Int32 × SI)} {N : Nat} (C : Cx l g p s m meth c cX12_shutBy 4 RX12) (hr : meth.sig.returnType = (some .int)) (hSh : ShR R) : ∀ (n : Nat) (σ : SI) (x0 : Nat) (x1 : Int32) (x2 : Int32) (x3 : Int32), f_X12_shutBy_4 N R n σ x0 x1 x2 x3 = some r → Ok 194 x0 12 → ∀ (H : Heap) (locs : List Loc) (ls : Array Slot), S2 g s σ R L H locs → lv_has ls 4 [(0, .ref (gb g + x0)), (1, .int x1), (2, .int x2), (3, .int x3)] → W p l e (rmd 4 0 0) s m args below meth c H locs 0 0 (MQ below (Qg g 194 (PI R L r)) args s 0 0 (gA g)) (F0 m 4 ls []) := by
  have hx := C.1
  have hb := C.2.1
  intro n
  induction n with
  | zero =>
    intro σ x0 x1 x2 x3 h
    cases (show (none : Option (Int32 × SI)) = some r from h)
  | succ n ih =>
    intro σ x0 x1 x2 x3 h hx0 H locs ls S hl
    rw [f_X12_shutBy_4] at h
    refine lv_iload_n hx hb dX12_shutBy_4 rfl (lv_at hl 3 rfl) ?_
    refine lv_aload_n hx hb dX12_shutBy_5 rfl (lv_at hl 0 rfl) ?_
    have hR1 : Ok 194 (R x0 11) 10417 := hSh x0 12 11 10417 hx0.1 rfl
    refine x_getR C S KX12 hx0 11 (by decide) rfl rfl fl_RX12_88 hR1 dX12_shutBy_6 ?_
    refine lv_iconst (v := (1 : Int32)) hx hb dX12_shutBy_9 (by decide) ?_
    obtain ⟨hi2, h⟩ := ck_el h
    refine x_iald (len := 417) C S (by decide) hR1 hi2 dX12_shutBy_10 ?_
    refine lv_icmp_ge (tgt := 39) hx hb dX12_shutBy_11 (by decide) (fun c3 => ?_) (fun c3 => ?_)
    · have h := it_p c3 h
      refine lv_iload_n hx hb dX12_shutBy_39 rfl (lv_at hl 2 rfl) ?_
      exact x_iret C S hr h dX12_shutBy_40
    · have h := it_n c3 h
      refine lv_iload_n hx hb dX12_shutBy_14 rfl (lv_at hl 2 rfl) ?_
      refine lv_aload_n hx hb dX12_shutBy_15 rfl (lv_at hl 0 rfl) ?_
      refine lv_iload_n hx hb dX12_shutBy_16 rfl (lv_at hl 1 rfl) ?_
      refine lv_iload_n hx hb dX12_shutBy_17 rfl (lv_at hl 3 rfl) ?_
      obtain ⟨a4, σ4, hc4, h⟩ := bd_el h
      refine x_callVI C S KX12 hx0 (ok_X12_isShut (L := L) hc4 hSh hx0) ⟨cd_X12_isShut, ni_RX12, ml_RX12_254, in_X12_isShut, sl_X12_isShut⟩ ⟨by decide, by decide⟩ rfl ⟨by decide, by decide⟩ hl.1 rfl (Nat.le_of_ble_eq_true rfl) ⟨by decide, by decide⟩ dX12_shutBy_18 (fun H locs S => ?_)
      refine lv_if_eq (tgt := 30) hx hb dX12_shutBy_21 (by decide) (fun c5 => ?_) (fun c5 => ?_)
      · have h := it_p c5 h
        refine lv_iconst (v := (0 : Int32)) hx hb dX12_shutBy_30 (by decide) ?_
        refine lv_ior hx hb dX12_shutBy_31 ?_
        refine lv_istore_n (lv' := [(2, .int (x2 ||| (0 : Int32))), (0, .ref (gb g + x0)), (1, .int x1), (3, .int x3)]) hx hb dX12_shutBy_32 rfl hl (by decide) rfl (fun ls hl => ?_)
        refine lv_iinc (v := x3 + 1) (lv' := [(3, .int (x3 + 1)), (2, .int (x2 ||| (0 : Int32))), (0, .ref (gb g + x0)), (1, .int x1)]) hx hb dX12_shutBy_33 hl (k := 3) rfl rfl (by decide) rfl (fun ls hl => ?_)
        refine lv_goto (tgt := 4) hx hb dX12_shutBy_36 (by decide) ?_
        exact ih σ4 x0 x1 (x2 ||| (0 : Int32)) (x3 + 1) h hx0 H locs ls S (lv_sub hl [2, 3, 1, 0] rfl)
      · have h := it_n c5 h
        refine lv_iconst (v := (1 : Int32)) hx hb dX12_shutBy_24 (by decide) ?_
        refine lv_iload_n hx hb dX12_shutBy_25 rfl (lv_at hl 3 rfl) ?_
        refine lv_ishl hx hb dX12_shutBy_26 ?_
        refine lv_goto (tgt := 31) hx hb dX12_shutBy_27 (by decide) ?_
        refine lv_ior hx hb dX12_shutBy_31 ?_
        refine lv_istore_n (lv' := [(2, .int (x2 ||| ((1 : Int32) <<< (x3 &&& 31)))), (0, .ref (gb g + x0)), (1, .int x1), (3, .int x3)]) hx hb dX12_shutBy_32 rfl hl (by decide) rfl (fun ls hl => ?_)
        refine lv_iinc (v := x3 + 1) (lv' := [(3, .int (x3 + 1)), (2, .int (x2 ||| ((1 : Int32) <<< (x3 &&& 31)))), (0, .ref (gb g + x0)), (1, .int x1)]) hx hb dX12_shutBy_33 hl (k := 3) rfl rfl (by decide) rfl (fun ls hl => ?_)
        refine lv_goto (tgt := 4) hx hb dX12_shutBy_36 (by decide) ?_
        exact ih σ4 x0 x1 (x2 ||| ((1 : Int32) <<< (x3 &&& 31))) (x3 + 1) h hx0 H locs ls S (lv_sub hl [2, 3, 1, 0] rfl)
set_option maxHeartbeats 4000000 in
set_option maxRecDepth 100000 in
theorem ok_X12_shutBy {l : Launch} {g : GL} {R : Nat → Nat → Nat} {L : Nat → Nat → Int64} {N : Nat} {σ : SI} {x0 : Nat} {x1 : Int32} {r : (Int32 × SI)} (h : f_X12_shutBy N R σ x0 x1 = some r) (hSh : ShR R) (hx0 : Ok 194 x0 12) : Ct l g 4 yX12_shutBy cX12_shutBy 4 (some .int) 194 194 0 0 [.ref (gb g + x0), .int x1] (mkS σ R L) (PI R L r) := by
  refine Met.ofW (cc := cX12_shutBy) (maxL := 4) (ret := (some .int)) (by decide) rfl ?_
  intro p e s m args below meth c s₁ B hml hv
  obtain ⟨rfl, hE, hLo, hWd⟩ := hv
  have hr : meth.sig.returnType = (some .int) := B.returns
  have C : Cx l g p s m meth c cX12_shutBy 4 RX12 := ⟨B.exec, B.bytes, hml, findClass_of_methodNamed B.named, hE, hLo, B.notSynchronized⟩
  have S : S2 g s σ R L s.heap [] := ⟨hWd, va_S.rf⟩
  have hx := C.1
  have hb := C.2.1
  have hl := lv_entry ([.ref (gb g + x0), .int x1]) (n := 4) (Nat.le_of_ble_eq_true rfl)
  rw [lg_entry_eq]
  generalize (lg_sl ([.ref (gb g + x0), .int x1]) ++ List.replicate (4 - (lg_sl ([.ref (gb g + x0), .int x1])).length) Slot.unset).toArray = ls at hl ⊢
  have hl : lv_has ls 4 [(0, .ref (gb g + x0)), (1, .int x1)] := hl
  generalize hH : s.heap = H at S ⊢
  generalize hlc : ([] : List Loc) = locs at S ⊢
  rw [f_X12_shutBy] at h
  refine lv_iconst (v := (0 : Int32)) hx hb dX12_shutBy_0 (by decide) ?_
  refine lv_istore_n (lv' := [(2, .int (0 : Int32)), (0, .ref (gb g + x0)), (1, .int x1)]) hx hb dX12_shutBy_1 rfl hl (by decide) rfl (fun ls hl => ?_)
  refine lv_iconst (v := (0 : Int32)) hx hb dX12_shutBy_2 (by decide) ?_
  refine lv_istore_n (lv' := [(3, .int (0 : Int32)), (2, .int (0 : Int32)), (0, .ref (gb g + x0)), (1, .int x1)]) hx hb dX12_shutBy_3 rfl hl (by decide) rfl (fun ls hl => ?_)
  exact w_X12_shutBy_4 C hr hSh N σ x0 x1 (0 : Int32) (0 : Int32) h hx0 H locs ls S (lv_sub hl [2, 3, 1, 0] rfl)
theorem dX12_closes_0 : decode cX12_closes 0 = .ok (.aload_n 0, 1) := by decide +kernel
theorem dX12_closes_1 : decode cX12_closes 1 = .ok (.iconst 0, 1) := by decide +kernel
theorem dX12_closes_2 : decode cX12_closes 2 = .ok (.putfield 3, 3) := by decide +kernel
theorem dX12_closes_5 : decode cX12_closes 5 = .ok (.aload_n 0, 1) := by decide +kernel
theorem dX12_closes_6 : decode cX12_closes 6 = .ok (.iload_n 1, 1) := by decide +kernel
theorem dX12_closes_7 : decode cX12_closes 7 = .ok (.invokevirtual 198, 3) := by decide +kernel
theorem dX12_closes_10 : decode cX12_closes 10 = .ok (.ifCond .ne 24, 3) := by decide +kernel
theorem dX12_closes_13 : decode cX12_closes 13 = .ok (.aload_n 0, 1) := by decide +kernel
theorem dX12_closes_14 : decode cX12_closes 14 = .ok (.iload_n 2, 1) := by decide +kernel
theorem dX12_closes_15 : decode cX12_closes 15 = .ok (.invokevirtual 257, 3) := by decide +kernel
theorem dX12_closes_18 : decode cX12_closes 18 = .ok (.ifCond .ne 16, 3) := by decide +kernel
theorem dX12_closes_21 : decode cX12_closes 21 = .ok (.aload_n 0, 1) := by decide +kernel
theorem dX12_closes_22 : decode cX12_closes 22 = .ok (.iload_n 1, 1) := by decide +kernel
theorem dX12_closes_23 : decode cX12_closes 23 = .ok (.iload_n 2, 1) := by decide +kernel
theorem dX12_closes_24 : decode cX12_closes 24 = .ok (.invokevirtual 254, 3) := by decide +kernel
theorem dX12_closes_27 : decode cX12_closes 27 = .ok (.ifCond .eq 7, 3) := by decide +kernel
theorem dX12_closes_30 : decode cX12_closes 30 = .ok (.iconst 1, 1) := by decide +kernel
theorem dX12_closes_31 : decode cX12_closes 31 = .ok (.goto 4, 3) := by decide +kernel
theorem dX12_closes_34 : decode cX12_closes 34 = .ok (.iconst 0, 1) := by decide +kernel
theorem dX12_closes_35 : decode cX12_closes 35 = .ok (.ireturn, 1) := by decide +kernel
def f_X12_closes (N : Nat) (R : Nat → Nat → Nat) (σ : SI) (x0 : Nat) (x1 : Int32) (x2 : Int32) : Option (Int32 × SI) := sq (up σ x0 0 (0 : Int32)) (fun σ1 => bd (f_X12_noBlast N R σ1 x0 x1) (fun a2 σ2 => if a2 = 0 then (bd (f_X12_noRoad N R σ2 x0 x2) (fun a4 σ4 => if a4 = 0 then (bd (f_X12_isShut N R σ4 x0 x1 x2) (fun a6 σ6 => if a6 = 0 then (some ((0 : Int32), σ6)) else (some ((1 : Int32), σ6)))) else (some ((0 : Int32), σ4)))) else (some ((0 : Int32), σ2))))
set_option maxHeartbeats 4000000 in
set_option maxRecDepth 100000 in
theorem ok_X12_closes {l : Launch} {g : GL} {R : Nat → Nat → Nat} {L : Nat → Nat → Int64} {N : Nat} {σ : SI} {x0 : Nat} {x1 : Int32} {x2 : Int32} {r : (Int32 × SI)} (h : f_X12_closes N R σ x0 x1 x2 = some r) (hSh : ShR R) (hx0 : Ok 194 x0 12) : Ct l g 4 yX12_closes cX12_closes 3 (some .boolean) 194 194 0 0 [.ref (gb g + x0), .int x1, .int x2] (mkS σ R L) (PI R L r) := by
  refine Met.ofW (cc := cX12_closes) (maxL := 3) (ret := (some .boolean)) (by decide) rfl ?_
  intro p e s m args below meth c s₁ B hml hv
  obtain ⟨rfl, hE, hLo, hWd⟩ := hv
  have hr : meth.sig.returnType = (some .boolean) := B.returns
  have C : Cx l g p s m meth c cX12_closes 3 RX12 := ⟨B.exec, B.bytes, hml, findClass_of_methodNamed B.named, hE, hLo, B.notSynchronized⟩
  have S : S2 g s σ R L s.heap [] := ⟨hWd, va_S.rf⟩
  have hx := C.1
  have hb := C.2.1
  have hl := lv_entry ([.ref (gb g + x0), .int x1, .int x2]) (n := 3) (Nat.le_of_ble_eq_true rfl)
  rw [lg_entry_eq]
  generalize (lg_sl ([.ref (gb g + x0), .int x1, .int x2]) ++ List.replicate (3 - (lg_sl ([.ref (gb g + x0), .int x1, .int x2])).length) Slot.unset).toArray = ls at hl ⊢
  have hl : lv_has ls 3 [(0, .ref (gb g + x0)), (1, .int x1), (2, .int x2)] := hl
  generalize hH : s.heap = H at S ⊢
  generalize hlc : ([] : List Loc) = locs at S ⊢
  rw [f_X12_closes] at h
  refine lv_aload_n hx hb dX12_closes_0 rfl (lv_at hl 0 rfl) ?_
  refine lv_iconst (v := (0 : Int32)) hx hb dX12_closes_1 (by decide) ?_
  obtain ⟨σ1, hs1, h⟩ := sq_el h
  refine x_putI C S KX12 hx0 0 (by decide) rfl rfl rfl ⟨rfl, rfl⟩ fl_RX12_3 dX12_closes_2 hs1 (fun H locs S => ?_)
  refine lv_aload_n hx hb dX12_closes_5 rfl (lv_at hl 0 rfl) ?_
  refine lv_iload_n hx hb dX12_closes_6 rfl (lv_at hl 1 rfl) ?_
  obtain ⟨a2, σ2, hc2, h⟩ := bd_el h
  refine x_callVI C S KX12 hx0 (ok_X12_noBlast (L := L) hc2 hSh hx0) ⟨cd_X12_noBlast, ni_RX12, ml_RX12_198, in_X12_noBlast, sl_X12_noBlast⟩ ⟨by decide, by decide⟩ rfl ⟨by decide, by decide⟩ hl.1 rfl (Nat.le_of_ble_eq_true rfl) ⟨by decide, by decide⟩ dX12_closes_7 (fun H locs S => ?_)
  refine lv_if_ne (tgt := 34) hx hb dX12_closes_10 (by decide) (fun c3 => ?_) (fun c3 => ?_)
  · have h := it_n c3 h
    refine lv_iconst (v := (0 : Int32)) hx hb dX12_closes_34 (by decide) ?_
    exact x_zret C S hr (by decide) h dX12_closes_35
  · have h := it_p c3 h
    refine lv_aload_n hx hb dX12_closes_13 rfl (lv_at hl 0 rfl) ?_
    refine lv_iload_n hx hb dX12_closes_14 rfl (lv_at hl 2 rfl) ?_
    obtain ⟨a4, σ4, hc4, h⟩ := bd_el h
    refine x_callVI C S KX12 hx0 (ok_X12_noRoad (L := L) hc4 hSh hx0) ⟨cd_X12_noRoad, ni_RX12, ml_RX12_257, in_X12_noRoad, sl_X12_noRoad⟩ ⟨by decide, by decide⟩ rfl ⟨by decide, by decide⟩ hl.1 rfl (Nat.le_of_ble_eq_true rfl) ⟨by decide, by decide⟩ dX12_closes_15 (fun H locs S => ?_)
    refine lv_if_ne (tgt := 34) hx hb dX12_closes_18 (by decide) (fun c5 => ?_) (fun c5 => ?_)
    · have h := it_n c5 h
      refine lv_iconst (v := (0 : Int32)) hx hb dX12_closes_34 (by decide) ?_
      exact x_zret C S hr (by decide) h dX12_closes_35
    · have h := it_p c5 h
      refine lv_aload_n hx hb dX12_closes_21 rfl (lv_at hl 0 rfl) ?_
      refine lv_iload_n hx hb dX12_closes_22 rfl (lv_at hl 1 rfl) ?_
      refine lv_iload_n hx hb dX12_closes_23 rfl (lv_at hl 2 rfl) ?_
      obtain ⟨a6, σ6, hc6, h⟩ := bd_el h
      refine x_callVI C S KX12 hx0 (ok_X12_isShut (L := L) hc6 hSh hx0) ⟨cd_X12_isShut, ni_RX12, ml_RX12_254, in_X12_isShut, sl_X12_isShut⟩ ⟨by decide, by decide⟩ rfl ⟨by decide, by decide⟩ hl.1 rfl (Nat.le_of_ble_eq_true rfl) ⟨by decide, by decide⟩ dX12_closes_24 (fun H locs S => ?_)
      refine lv_if_eq (tgt := 34) hx hb dX12_closes_27 (by decide) (fun c7 => ?_) (fun c7 => ?_)
      · have h := it_p c7 h
        refine lv_iconst (v := (0 : Int32)) hx hb dX12_closes_34 (by decide) ?_
        exact x_zret C S hr (by decide) h dX12_closes_35
      · have h := it_n c7 h
        refine lv_iconst (v := (1 : Int32)) hx hb dX12_closes_30 (by decide) ?_
        refine lv_goto (tgt := 35) hx hb dX12_closes_31 (by decide) ?_
        exact x_zret C S hr (by decide) h dX12_closes_35
theorem dX12_closedBy_0 : decode cX12_closedBy 0 = .ok (.aload_n 0, 1) := by decide +kernel
theorem dX12_closedBy_1 : decode cX12_closedBy 1 = .ok (.iconst 0, 1) := by decide +kernel
theorem dX12_closedBy_2 : decode cX12_closedBy 2 = .ok (.putfield 3, 3) := by decide +kernel
theorem dX12_closedBy_5 : decode cX12_closedBy 5 = .ok (.aload_n 0, 1) := by decide +kernel
theorem dX12_closedBy_6 : decode cX12_closedBy 6 = .ok (.iload_n 1, 1) := by decide +kernel
theorem dX12_closedBy_7 : decode cX12_closedBy 7 = .ok (.invokevirtual 198, 3) := by decide +kernel
theorem dX12_closedBy_10 : decode cX12_closedBy 10 = .ok (.ifCond .eq 7, 3) := by decide +kernel
theorem dX12_closedBy_13 : decode cX12_closedBy 13 = .ok (.iconst 0, 1) := by decide +kernel
theorem dX12_closedBy_14 : decode cX12_closedBy 14 = .ok (.goto 8, 3) := by decide +kernel
theorem dX12_closedBy_17 : decode cX12_closedBy 17 = .ok (.aload_n 0, 1) := by decide +kernel
theorem dX12_closedBy_18 : decode cX12_closedBy 18 = .ok (.iload_n 1, 1) := by decide +kernel
theorem dX12_closedBy_19 : decode cX12_closedBy 19 = .ok (.invokevirtual 260, 3) := by decide +kernel
theorem dX12_closedBy_22 : decode cX12_closedBy 22 = .ok (.ireturn, 1) := by decide +kernel
def f_X12_closedBy (N : Nat) (R : Nat → Nat → Nat) (σ : SI) (x0 : Nat) (x1 : Int32) : Option (Int32 × SI) := sq (up σ x0 0 (0 : Int32)) (fun σ1 => bd (f_X12_noBlast N R σ1 x0 x1) (fun a2 σ2 => if a2 = 0 then (bd (f_X12_shutBy N R σ2 x0 x1) (fun a4 σ4 => some (a4, σ4))) else (some ((0 : Int32), σ2))))
set_option maxHeartbeats 4000000 in
set_option maxRecDepth 100000 in
theorem ok_X12_closedBy {l : Launch} {g : GL} {R : Nat → Nat → Nat} {L : Nat → Nat → Int64} {N : Nat} {σ : SI} {x0 : Nat} {x1 : Int32} {r : (Int32 × SI)} (h : f_X12_closedBy N R σ x0 x1 = some r) (hSh : ShR R) (hx0 : Ok 194 x0 12) : Ct l g 5 yX12_closedBy cX12_closedBy 2 (some .int) 194 194 0 0 [.ref (gb g + x0), .int x1] (mkS σ R L) (PI R L r) := by
  refine Met.ofW (cc := cX12_closedBy) (maxL := 2) (ret := (some .int)) (by decide) rfl ?_
  intro p e s m args below meth c s₁ B hml hv
  obtain ⟨rfl, hE, hLo, hWd⟩ := hv
  have hr : meth.sig.returnType = (some .int) := B.returns
  have C : Cx l g p s m meth c cX12_closedBy 2 RX12 := ⟨B.exec, B.bytes, hml, findClass_of_methodNamed B.named, hE, hLo, B.notSynchronized⟩
  have S : S2 g s σ R L s.heap [] := ⟨hWd, va_S.rf⟩
  have hx := C.1
  have hb := C.2.1
  have hl := lv_entry ([.ref (gb g + x0), .int x1]) (n := 2) (Nat.le_of_ble_eq_true rfl)
  rw [lg_entry_eq]
  generalize (lg_sl ([.ref (gb g + x0), .int x1]) ++ List.replicate (2 - (lg_sl ([.ref (gb g + x0), .int x1])).length) Slot.unset).toArray = ls at hl ⊢
  have hl : lv_has ls 2 [(0, .ref (gb g + x0)), (1, .int x1)] := hl
  generalize hH : s.heap = H at S ⊢
  generalize hlc : ([] : List Loc) = locs at S ⊢
  rw [f_X12_closedBy] at h
  refine lv_aload_n hx hb dX12_closedBy_0 rfl (lv_at hl 0 rfl) ?_
  refine lv_iconst (v := (0 : Int32)) hx hb dX12_closedBy_1 (by decide) ?_
  obtain ⟨σ1, hs1, h⟩ := sq_el h
  refine x_putI C S KX12 hx0 0 (by decide) rfl rfl rfl ⟨rfl, rfl⟩ fl_RX12_3 dX12_closedBy_2 hs1 (fun H locs S => ?_)
  refine lv_aload_n hx hb dX12_closedBy_5 rfl (lv_at hl 0 rfl) ?_
  refine lv_iload_n hx hb dX12_closedBy_6 rfl (lv_at hl 1 rfl) ?_
  obtain ⟨a2, σ2, hc2, h⟩ := bd_el h
  refine x_callVI C S KX12 hx0 (ok_X12_noBlast (L := L) hc2 hSh hx0) ⟨cd_X12_noBlast, ni_RX12, ml_RX12_198, in_X12_noBlast, sl_X12_noBlast⟩ ⟨by decide, by decide⟩ rfl ⟨by decide, by decide⟩ hl.1 rfl (Nat.le_of_ble_eq_true rfl) ⟨by decide, by decide⟩ dX12_closedBy_7 (fun H locs S => ?_)
  refine lv_if_eq (tgt := 17) hx hb dX12_closedBy_10 (by decide) (fun c3 => ?_) (fun c3 => ?_)
  · have h := it_p c3 h
    refine lv_aload_n hx hb dX12_closedBy_17 rfl (lv_at hl 0 rfl) ?_
    refine lv_iload_n hx hb dX12_closedBy_18 rfl (lv_at hl 1 rfl) ?_
    obtain ⟨a4, σ4, hc4, h⟩ := bd_el h
    refine x_callVI C S KX12 hx0 (ok_X12_shutBy (L := L) hc4 hSh hx0) ⟨cd_X12_shutBy, ni_RX12, ml_RX12_260, in_X12_shutBy, sl_X12_shutBy⟩ ⟨by decide, by decide⟩ rfl ⟨by decide, by decide⟩ hl.1 rfl (Nat.le_of_ble_eq_true rfl) ⟨by decide, by decide⟩ dX12_closedBy_19 (fun H locs S => ?_)
    exact x_iret C S hr h dX12_closedBy_22
  · have h := it_n c3 h
    refine lv_iconst (v := (0 : Int32)) hx hb dX12_closedBy_13 (by decide) ?_
    refine lv_goto (tgt := 22) hx hb dX12_closedBy_14 (by decide) ?_
    exact x_iret C S hr h dX12_closedBy_22
theorem dX12_neededRadius_0 : decode cX12_neededRadius 0 = .ok (.aload_n 0, 1) := by decide +kernel
theorem dX12_neededRadius_1 : decode cX12_neededRadius 1 = .ok (.iconst 0, 1) := by decide +kernel
theorem dX12_neededRadius_2 : decode cX12_neededRadius 2 = .ok (.putfield 3, 3) := by decide +kernel
theorem dX12_neededRadius_5 : decode cX12_neededRadius 5 = .ok (.aload_n 0, 1) := by decide +kernel
theorem dX12_neededRadius_6 : decode cX12_neededRadius 6 = .ok (.iload_n 1, 1) := by decide +kernel
theorem dX12_neededRadius_7 : decode cX12_neededRadius 7 = .ok (.invokevirtual 198, 3) := by decide +kernel
theorem dX12_neededRadius_10 : decode cX12_neededRadius 10 = .ok (.ifCond .ne 11, 3) := by decide +kernel
theorem dX12_neededRadius_13 : decode cX12_neededRadius 13 = .ok (.aload_n 0, 1) := by decide +kernel
theorem dX12_neededRadius_14 : decode cX12_neededRadius 14 = .ok (.iload_n 2, 1) := by decide +kernel
theorem dX12_neededRadius_15 : decode cX12_neededRadius 15 = .ok (.invokevirtual 257, 3) := by decide +kernel
theorem dX12_neededRadius_18 : decode cX12_neededRadius 18 = .ok (.ifCond .eq 5, 3) := by decide +kernel
theorem dX12_neededRadius_21 : decode cX12_neededRadius 21 = .ok (.iconst 0, 1) := by decide +kernel
theorem dX12_neededRadius_22 : decode cX12_neededRadius 22 = .ok (.ireturn, 1) := by decide +kernel
theorem dX12_neededRadius_23 : decode cX12_neededRadius 23 = .ok (.iconst 0, 1) := by decide +kernel
theorem dX12_neededRadius_24 : decode cX12_neededRadius 24 = .ok (.istore_n 3, 1) := by decide +kernel
theorem dX12_neededRadius_25 : decode cX12_neededRadius 25 = .ok (.iload_n 3, 1) := by decide +kernel
theorem dX12_neededRadius_26 : decode cX12_neededRadius 26 = .ok (.sipush 1500, 3) := by decide +kernel
theorem dX12_neededRadius_29 : decode cX12_neededRadius 29 = .ok (.if_icmp .ge 19, 3) := by decide +kernel
theorem dX12_neededRadius_32 : decode cX12_neededRadius 32 = .ok (.aload_n 0, 1) := by decide +kernel
theorem dX12_neededRadius_33 : decode cX12_neededRadius 33 = .ok (.iload_n 1, 1) := by decide +kernel
theorem dX12_neededRadius_34 : decode cX12_neededRadius 34 = .ok (.iload_n 2, 1) := by decide +kernel
theorem dX12_neededRadius_35 : decode cX12_neededRadius 35 = .ok (.iload_n 3, 1) := by decide +kernel
theorem dX12_neededRadius_36 : decode cX12_neededRadius 36 = .ok (.invokevirtual 251, 3) := by decide +kernel
theorem dX12_neededRadius_39 : decode cX12_neededRadius 39 = .ok (.ifCond .ne 9, 3) := by decide +kernel
theorem dX12_neededRadius_42 : decode cX12_neededRadius 42 = .ok (.iinc 3 1, 3) := by decide +kernel
theorem dX12_neededRadius_45 : decode cX12_neededRadius 45 = .ok (.goto (-20), 3) := by decide +kernel
theorem dX12_neededRadius_48 : decode cX12_neededRadius 48 = .ok (.iload_n 3, 1) := by decide +kernel
theorem dX12_neededRadius_49 : decode cX12_neededRadius 49 = .ok (.ireturn, 1) := by decide +kernel
def f_X12_neededRadius_25 (N : Nat) (R : Nat → Nat → Nat) : Nat → SI → Nat → Int32 → Int32 → Int32 → Option (Int32 × SI)
  | 0, _, _, _, _, _ => none
  | n + 1, σ, x0, x1, x2, x3 => if (1500 : Int32) ≤ x3 then (some (x3, σ)) else (bd (f_X12_isNear N R σ x0 x1 x2 x3) (fun a7 σ7 => if a7 = 0 then (f_X12_neededRadius_25 N R n σ7 x0 x1 x2 (x3 + 1)) else (some (x3, σ7))))
def f_X12_neededRadius (N : Nat) (R : Nat → Nat → Nat) (σ : SI) (x0 : Nat) (x1 : Int32) (x2 : Int32) : Option (Int32 × SI) := sq (up σ x0 0 (0 : Int32)) (fun σ1 => bd (f_X12_noBlast N R σ1 x0 x1) (fun a2 σ2 => if a2 = 0 then (bd (f_X12_noRoad N R σ2 x0 x2) (fun a4 σ4 => if a4 = 0 then (f_X12_neededRadius_25 N R N σ4 x0 x1 x2 (0 : Int32)) else (some ((0 : Int32), σ4)))) else (some ((0 : Int32), σ2))))
set_option maxHeartbeats 4000000 in
set_option maxRecDepth 100000 in
theorem w_X12_neededRadius_25 {l : Launch} {g : GL} {p : Program} {e : Jvm.Env} {s : State} {m : MethodId} {args : Array Value} {below : List Frame} {meth : Method} {c : Code} {R : Nat → Nat → Nat} {L : Nat → Nat → Int64} {r : (Int32 × SI)} {N : Nat} (C : Cx l g p s m meth c cX12_neededRadius 4 RX12) (hr : meth.sig.returnType = (some .int)) (hSh : ShR R) : ∀ (n : Nat) (σ : SI) (x0 : Nat) (x1 : Int32) (x2 : Int32) (x3 : Int32), f_X12_neededRadius_25 N R n σ x0 x1 x2 x3 = some r → Ok 194 x0 12 → ∀ (H : Heap) (locs : List Loc) (ls : Array Slot), S2 g s σ R L H locs → lv_has ls 4 [(0, .ref (gb g + x0)), (1, .int x1), (2, .int x2), (3, .int x3)] → W p l e (rmd 3 0 0) s m args below meth c H locs 0 0 (MQ below (Qg g 194 (PI R L r)) args s 0 0 (gA g)) (F0 m 25 ls []) := by
  have hx := C.1
  have hb := C.2.1
  intro n
  induction n with
  | zero =>
    intro σ x0 x1 x2 x3 h
    cases (show (none : Option (Int32 × SI)) = some r from h)
  | succ n ih =>
    intro σ x0 x1 x2 x3 h hx0 H locs ls S hl
    rw [f_X12_neededRadius_25] at h
    refine lv_iload_n hx hb dX12_neededRadius_25 rfl (lv_at hl 3 rfl) ?_
    refine lv_sipush (v := (1500 : Int32)) hx hb dX12_neededRadius_26 (by decide) ?_
    refine lv_icmp_ge (tgt := 48) hx hb dX12_neededRadius_29 (by decide) (fun c6 => ?_) (fun c6 => ?_)
    · have h := it_p c6 h
      refine lv_iload_n hx hb dX12_neededRadius_48 rfl (lv_at hl 3 rfl) ?_
      exact x_iret C S hr h dX12_neededRadius_49
    · have h := it_n c6 h
      refine lv_aload_n hx hb dX12_neededRadius_32 rfl (lv_at hl 0 rfl) ?_
      refine lv_iload_n hx hb dX12_neededRadius_33 rfl (lv_at hl 1 rfl) ?_
      refine lv_iload_n hx hb dX12_neededRadius_34 rfl (lv_at hl 2 rfl) ?_
      refine lv_iload_n hx hb dX12_neededRadius_35 rfl (lv_at hl 3 rfl) ?_
      obtain ⟨a7, σ7, hc7, h⟩ := bd_el h
      refine x_callVI C S KX12 hx0 (ok_X12_isNear (L := L) hc7 hSh hx0) ⟨cd_X12_isNear, ni_RX12, ml_RX12_251, in_X12_isNear, sl_X12_isNear⟩ ⟨by decide, by decide⟩ rfl ⟨by decide, by decide⟩ hl.1 rfl (Nat.le_of_ble_eq_true rfl) ⟨by decide, by decide⟩ dX12_neededRadius_36 (fun H locs S => ?_)
      refine lv_if_ne (tgt := 48) hx hb dX12_neededRadius_39 (by decide) (fun c8 => ?_) (fun c8 => ?_)
      · have h := it_n c8 h
        refine lv_iload_n hx hb dX12_neededRadius_48 rfl (lv_at hl 3 rfl) ?_
        exact x_iret C S hr h dX12_neededRadius_49
      · have h := it_p c8 h
        refine lv_iinc (v := x3 + 1) (lv' := [(3, .int (x3 + 1)), (0, .ref (gb g + x0)), (1, .int x1), (2, .int x2)]) hx hb dX12_neededRadius_42 hl (k := 3) rfl rfl (by decide) rfl (fun ls hl => ?_)
        refine lv_goto (tgt := 25) hx hb dX12_neededRadius_45 (by decide) ?_
        exact ih σ7 x0 x1 x2 (x3 + 1) h hx0 H locs ls S (lv_sub hl [1, 2, 3, 0] rfl)
set_option maxHeartbeats 4000000 in
set_option maxRecDepth 100000 in
theorem ok_X12_neededRadius {l : Launch} {g : GL} {R : Nat → Nat → Nat} {L : Nat → Nat → Int64} {N : Nat} {σ : SI} {x0 : Nat} {x1 : Int32} {x2 : Int32} {r : (Int32 × SI)} (h : f_X12_neededRadius N R σ x0 x1 x2 = some r) (hSh : ShR R) (hx0 : Ok 194 x0 12) : Ct l g 3 yX12_neededRadius cX12_neededRadius 4 (some .int) 194 194 0 0 [.ref (gb g + x0), .int x1, .int x2] (mkS σ R L) (PI R L r) := by
  refine Met.ofW (cc := cX12_neededRadius) (maxL := 4) (ret := (some .int)) (by decide) rfl ?_
  intro p e s m args below meth c s₁ B hml hv
  obtain ⟨rfl, hE, hLo, hWd⟩ := hv
  have hr : meth.sig.returnType = (some .int) := B.returns
  have C : Cx l g p s m meth c cX12_neededRadius 4 RX12 := ⟨B.exec, B.bytes, hml, findClass_of_methodNamed B.named, hE, hLo, B.notSynchronized⟩
  have S : S2 g s σ R L s.heap [] := ⟨hWd, va_S.rf⟩
  have hx := C.1
  have hb := C.2.1
  have hl := lv_entry ([.ref (gb g + x0), .int x1, .int x2]) (n := 4) (Nat.le_of_ble_eq_true rfl)
  rw [lg_entry_eq]
  generalize (lg_sl ([.ref (gb g + x0), .int x1, .int x2]) ++ List.replicate (4 - (lg_sl ([.ref (gb g + x0), .int x1, .int x2])).length) Slot.unset).toArray = ls at hl ⊢
  have hl : lv_has ls 4 [(0, .ref (gb g + x0)), (1, .int x1), (2, .int x2)] := hl
  generalize hH : s.heap = H at S ⊢
  generalize hlc : ([] : List Loc) = locs at S ⊢
  rw [f_X12_neededRadius] at h
  refine lv_aload_n hx hb dX12_neededRadius_0 rfl (lv_at hl 0 rfl) ?_
  refine lv_iconst (v := (0 : Int32)) hx hb dX12_neededRadius_1 (by decide) ?_
  obtain ⟨σ1, hs1, h⟩ := sq_el h
  refine x_putI C S KX12 hx0 0 (by decide) rfl rfl rfl ⟨rfl, rfl⟩ fl_RX12_3 dX12_neededRadius_2 hs1 (fun H locs S => ?_)
  refine lv_aload_n hx hb dX12_neededRadius_5 rfl (lv_at hl 0 rfl) ?_
  refine lv_iload_n hx hb dX12_neededRadius_6 rfl (lv_at hl 1 rfl) ?_
  obtain ⟨a2, σ2, hc2, h⟩ := bd_el h
  refine x_callVI C S KX12 hx0 (ok_X12_noBlast (L := L) hc2 hSh hx0) ⟨cd_X12_noBlast, ni_RX12, ml_RX12_198, in_X12_noBlast, sl_X12_noBlast⟩ ⟨by decide, by decide⟩ rfl ⟨by decide, by decide⟩ hl.1 rfl (Nat.le_of_ble_eq_true rfl) ⟨by decide, by decide⟩ dX12_neededRadius_7 (fun H locs S => ?_)
  refine lv_if_ne (tgt := 21) hx hb dX12_neededRadius_10 (by decide) (fun c3 => ?_) (fun c3 => ?_)
  · have h := it_n c3 h
    refine lv_iconst (v := (0 : Int32)) hx hb dX12_neededRadius_21 (by decide) ?_
    exact x_iret C S hr h dX12_neededRadius_22
  · have h := it_p c3 h
    refine lv_aload_n hx hb dX12_neededRadius_13 rfl (lv_at hl 0 rfl) ?_
    refine lv_iload_n hx hb dX12_neededRadius_14 rfl (lv_at hl 2 rfl) ?_
    obtain ⟨a4, σ4, hc4, h⟩ := bd_el h
    refine x_callVI C S KX12 hx0 (ok_X12_noRoad (L := L) hc4 hSh hx0) ⟨cd_X12_noRoad, ni_RX12, ml_RX12_257, in_X12_noRoad, sl_X12_noRoad⟩ ⟨by decide, by decide⟩ rfl ⟨by decide, by decide⟩ hl.1 rfl (Nat.le_of_ble_eq_true rfl) ⟨by decide, by decide⟩ dX12_neededRadius_15 (fun H locs S => ?_)
    refine lv_if_eq (tgt := 23) hx hb dX12_neededRadius_18 (by decide) (fun c5 => ?_) (fun c5 => ?_)
    · have h := it_p c5 h
      refine lv_iconst (v := (0 : Int32)) hx hb dX12_neededRadius_23 (by decide) ?_
      refine lv_istore_n (lv' := [(3, .int (0 : Int32)), (0, .ref (gb g + x0)), (1, .int x1), (2, .int x2)]) hx hb dX12_neededRadius_24 rfl hl (by decide) rfl (fun ls hl => ?_)
      exact w_X12_neededRadius_25 C hr hSh N σ4 x0 x1 x2 (0 : Int32) h hx0 H locs ls S (lv_sub hl [1, 2, 3, 0] rfl)
    · have h := it_n c5 h
      refine lv_iconst (v := (0 : Int32)) hx hb dX12_neededRadius_21 (by decide) ?_
      exact x_iret C S hr h dX12_neededRadius_22
theorem dX12_isStill_0 : decode cX12_isStill 0 = .ok (.iconst 0, 1) := by decide +kernel
theorem dX12_isStill_1 : decode cX12_isStill 1 = .ok (.istore_n 3, 1) := by decide +kernel
theorem dX12_isStill_2 : decode cX12_isStill 2 = .ok (.iconst 0, 1) := by decide +kernel
theorem dX12_isStill_3 : decode cX12_isStill 3 = .ok (.istore 4, 2) := by decide +kernel
theorem dX12_isStill_5 : decode cX12_isStill 5 = .ok (.iload 4, 2) := by decide +kernel
theorem dX12_isStill_7 : decode cX12_isStill 7 = .ok (.aload_n 0, 1) := by decide +kernel
theorem dX12_isStill_8 : decode cX12_isStill 8 = .ok (.iload_n 1, 1) := by decide +kernel
theorem dX12_isStill_9 : decode cX12_isStill 9 = .ok (.bipush 9, 2) := by decide +kernel
theorem dX12_isStill_11 : decode cX12_isStill 11 = .ok (.invokevirtual 227, 3) := by decide +kernel
theorem dX12_isStill_14 : decode cX12_isStill 14 = .ok (.if_icmp .ge 53, 3) := by decide +kernel
theorem dX12_isStill_17 : decode cX12_isStill 17 = .ok (.iload_n 3, 1) := by decide +kernel
theorem dX12_isStill_18 : decode cX12_isStill 18 = .ok (.ifCond .ne 37, 3) := by decide +kernel
theorem dX12_isStill_21 : decode cX12_isStill 21 = .ok (.iload_n 2, 1) := by decide +kernel
theorem dX12_isStill_22 : decode cX12_isStill 22 = .ok (.aload_n 0, 1) := by decide +kernel
theorem dX12_isStill_23 : decode cX12_isStill 23 = .ok (.iload_n 1, 1) := by decide +kernel
theorem dX12_isStill_24 : decode cX12_isStill 24 = .ok (.bipush 10, 2) := by decide +kernel
theorem dX12_isStill_26 : decode cX12_isStill 26 = .ok (.iconst 2, 1) := by decide +kernel
theorem dX12_isStill_27 : decode cX12_isStill 27 = .ok (.iload 4, 2) := by decide +kernel
theorem dX12_isStill_29 : decode cX12_isStill 29 = .ok (.imul, 1) := by decide +kernel
theorem dX12_isStill_30 : decode cX12_isStill 30 = .ok (.iadd, 1) := by decide +kernel
theorem dX12_isStill_31 : decode cX12_isStill 31 = .ok (.invokevirtual 227, 3) := by decide +kernel
theorem dX12_isStill_34 : decode cX12_isStill 34 = .ok (.if_icmp .lt 25, 3) := by decide +kernel
theorem dX12_isStill_37 : decode cX12_isStill 37 = .ok (.iload_n 2, 1) := by decide +kernel
theorem dX12_isStill_38 : decode cX12_isStill 38 = .ok (.aload_n 0, 1) := by decide +kernel
theorem dX12_isStill_39 : decode cX12_isStill 39 = .ok (.iload_n 1, 1) := by decide +kernel
theorem dX12_isStill_40 : decode cX12_isStill 40 = .ok (.bipush 10, 2) := by decide +kernel
theorem dX12_isStill_42 : decode cX12_isStill 42 = .ok (.iconst 2, 1) := by decide +kernel
theorem dX12_isStill_43 : decode cX12_isStill 43 = .ok (.iload 4, 2) := by decide +kernel
theorem dX12_isStill_45 : decode cX12_isStill 45 = .ok (.imul, 1) := by decide +kernel
theorem dX12_isStill_46 : decode cX12_isStill 46 = .ok (.iadd, 1) := by decide +kernel
theorem dX12_isStill_47 : decode cX12_isStill 47 = .ok (.iconst 1, 1) := by decide +kernel
theorem dX12_isStill_48 : decode cX12_isStill 48 = .ok (.iadd, 1) := by decide +kernel
theorem dX12_isStill_49 : decode cX12_isStill 49 = .ok (.invokevirtual 227, 3) := by decide +kernel
theorem dX12_isStill_52 : decode cX12_isStill 52 = .ok (.if_icmp .ge 7, 3) := by decide +kernel
theorem dX12_isStill_55 : decode cX12_isStill 55 = .ok (.iconst 1, 1) := by decide +kernel
theorem dX12_isStill_56 : decode cX12_isStill 56 = .ok (.goto 4, 3) := by decide +kernel
theorem dX12_isStill_59 : decode cX12_isStill 59 = .ok (.iconst 0, 1) := by decide +kernel
theorem dX12_isStill_60 : decode cX12_isStill 60 = .ok (.istore_n 3, 1) := by decide +kernel
theorem dX12_isStill_61 : decode cX12_isStill 61 = .ok (.iinc 4 1, 3) := by decide +kernel
theorem dX12_isStill_64 : decode cX12_isStill 64 = .ok (.goto (-59), 3) := by decide +kernel
theorem dX12_isStill_67 : decode cX12_isStill 67 = .ok (.iload_n 3, 1) := by decide +kernel
theorem dX12_isStill_68 : decode cX12_isStill 68 = .ok (.ireturn, 1) := by decide +kernel
def f_X12_isStill_55 (N : Nat) (R : Nat → Nat → Nat) (k5 : SI → Nat → Int32 → Int32 → Int32 → Int32 → Option (Int32 × SI)) (σ : SI) (x0 : Nat) (x1 : Int32) (x2 : Int32) (x4 : Int32) : Option (Int32 × SI) := k5 σ x0 x1 x2 (1 : Int32) (x4 + 1)
def f_X12_isStill_59 (N : Nat) (R : Nat → Nat → Nat) (k5 : SI → Nat → Int32 → Int32 → Int32 → Int32 → Option (Int32 × SI)) (σ : SI) (x0 : Nat) (x1 : Int32) (x2 : Int32) (x4 : Int32) : Option (Int32 × SI) := k5 σ x0 x1 x2 (0 : Int32) (x4 + 1)
def f_X12_isStill_5 (N : Nat) (R : Nat → Nat → Nat) : Nat → SI → Nat → Int32 → Int32 → Int32 → Int32 → Option (Int32 × SI)
  | 0, _, _, _, _, _, _ => none
  | n + 1, σ, x0, x1, x2, x3, x4 => bd (f_X12_ofNear N R σ x0 x1 (9 : Int32)) (fun a1 σ1 => if a1 ≤ x4 then (cb x3 (some (x3, σ1))) else (if x3 = 0 then (bd (f_X12_ofNear N R σ1 x0 x1 ((10 : Int32) + ((2 : Int32) * x4))) (fun a5 σ5 => if x2 < a5 then (f_X12_isStill_59 N R (fun σ x0 x1 x2 x3 x4 => f_X12_isStill_5 N R n σ x0 x1 x2 x3 x4) σ5 x0 x1 x2 x4) else (bd (f_X12_ofNear N R σ5 x0 x1 (((10 : Int32) + ((2 : Int32) * x4)) + (1 : Int32))) (fun a7 σ7 => if a7 ≤ x2 then (f_X12_isStill_59 N R (fun σ x0 x1 x2 x3 x4 => f_X12_isStill_5 N R n σ x0 x1 x2 x3 x4) σ7 x0 x1 x2 x4) else (f_X12_isStill_55 N R (fun σ x0 x1 x2 x3 x4 => f_X12_isStill_5 N R n σ x0 x1 x2 x3 x4) σ7 x0 x1 x2 x4))))) else (f_X12_isStill_55 N R (fun σ x0 x1 x2 x3 x4 => f_X12_isStill_5 N R n σ x0 x1 x2 x3 x4) σ1 x0 x1 x2 x4)))
def f_X12_isStill (N : Nat) (R : Nat → Nat → Nat) (σ : SI) (x0 : Nat) (x1 : Int32) (x2 : Int32) : Option (Int32 × SI) := f_X12_isStill_5 N R N σ x0 x1 x2 (0 : Int32) (0 : Int32)
set_option maxHeartbeats 4000000 in
set_option maxRecDepth 100000 in
theorem w_X12_isStill_55 {l : Launch} {g : GL} {p : Program} {e : Jvm.Env} {s : State} {m : MethodId} {args : Array Value} {below : List Frame} {meth : Method} {c : Code} {R : Nat → Nat → Nat} {L : Nat → Nat → Int64} {r : (Int32 × SI)} {N : Nat} {k5 : SI → Nat → Int32 → Int32 → Int32 → Int32 → Option (Int32 × SI)} (C : Cx l g p s m meth c cX12_isStill 5 RX12) (hr : meth.sig.returnType = (some .boolean)) (hSh : ShR R) (hk5 : ∀ (σ : SI) (x0 : Nat) (x1 : Int32) (x2 : Int32) (x3 : Int32) (x4 : Int32), k5 σ x0 x1 x2 x3 x4 = some r → Ok 194 x0 12 → ∀ (H : Heap) (locs : List Loc) (ls : Array Slot), S2 g s σ R L H locs → lv_has ls 5 [(0, .ref (gb g + x0)), (1, .int x1), (2, .int x2), (3, .int x3), (4, .int x4)] → W p l e (rmd 2 0 0) s m args below meth c H locs 0 0 (MQ below (Qg g 194 (PI R L r)) args s 0 0 (gA g)) (F0 m 5 ls [])) : ∀ (σ : SI) (x0 : Nat) (x1 : Int32) (x2 : Int32) (x4 : Int32), f_X12_isStill_55 N R k5 σ x0 x1 x2 x4 = some r → Ok 194 x0 12 → ∀ (H : Heap) (locs : List Loc) (ls : Array Slot), S2 g s σ R L H locs → lv_has ls 5 [(0, .ref (gb g + x0)), (1, .int x1), (2, .int x2), (4, .int x4)] → W p l e (rmd 2 0 0) s m args below meth c H locs 0 0 (MQ below (Qg g 194 (PI R L r)) args s 0 0 (gA g)) (F0 m 55 ls []) := by
  have hx := C.1
  have hb := C.2.1
  intro σ x0 x1 x2 x4 h hx0 H locs ls S hl
  rw [f_X12_isStill_55] at h
  refine lv_iconst (v := (1 : Int32)) hx hb dX12_isStill_55 (by decide) ?_
  refine lv_goto (tgt := 60) hx hb dX12_isStill_56 (by decide) ?_
  refine lv_istore_n (lv' := [(3, .int (1 : Int32)), (0, .ref (gb g + x0)), (1, .int x1), (2, .int x2), (4, .int x4)]) hx hb dX12_isStill_60 rfl hl (by decide) rfl (fun ls hl => ?_)
  refine lv_iinc (v := x4 + 1) (lv' := [(4, .int (x4 + 1)), (3, .int (1 : Int32)), (0, .ref (gb g + x0)), (1, .int x1), (2, .int x2)]) hx hb dX12_isStill_61 hl (k := 4) rfl rfl (by decide) rfl (fun ls hl => ?_)
  refine lv_goto (tgt := 5) hx hb dX12_isStill_64 (by decide) ?_
  exact hk5 σ x0 x1 x2 (1 : Int32) (x4 + 1) h hx0 H locs ls S (lv_sub hl [2, 3, 4, 1, 0] rfl)
set_option maxHeartbeats 4000000 in
set_option maxRecDepth 100000 in
theorem w_X12_isStill_59 {l : Launch} {g : GL} {p : Program} {e : Jvm.Env} {s : State} {m : MethodId} {args : Array Value} {below : List Frame} {meth : Method} {c : Code} {R : Nat → Nat → Nat} {L : Nat → Nat → Int64} {r : (Int32 × SI)} {N : Nat} {k5 : SI → Nat → Int32 → Int32 → Int32 → Int32 → Option (Int32 × SI)} (C : Cx l g p s m meth c cX12_isStill 5 RX12) (hr : meth.sig.returnType = (some .boolean)) (hSh : ShR R) (hk5 : ∀ (σ : SI) (x0 : Nat) (x1 : Int32) (x2 : Int32) (x3 : Int32) (x4 : Int32), k5 σ x0 x1 x2 x3 x4 = some r → Ok 194 x0 12 → ∀ (H : Heap) (locs : List Loc) (ls : Array Slot), S2 g s σ R L H locs → lv_has ls 5 [(0, .ref (gb g + x0)), (1, .int x1), (2, .int x2), (3, .int x3), (4, .int x4)] → W p l e (rmd 2 0 0) s m args below meth c H locs 0 0 (MQ below (Qg g 194 (PI R L r)) args s 0 0 (gA g)) (F0 m 5 ls [])) : ∀ (σ : SI) (x0 : Nat) (x1 : Int32) (x2 : Int32) (x4 : Int32), f_X12_isStill_59 N R k5 σ x0 x1 x2 x4 = some r → Ok 194 x0 12 → ∀ (H : Heap) (locs : List Loc) (ls : Array Slot), S2 g s σ R L H locs → lv_has ls 5 [(0, .ref (gb g + x0)), (1, .int x1), (2, .int x2), (4, .int x4)] → W p l e (rmd 2 0 0) s m args below meth c H locs 0 0 (MQ below (Qg g 194 (PI R L r)) args s 0 0 (gA g)) (F0 m 59 ls []) := by
  have hx := C.1
  have hb := C.2.1
  intro σ x0 x1 x2 x4 h hx0 H locs ls S hl
  rw [f_X12_isStill_59] at h
  refine lv_iconst (v := (0 : Int32)) hx hb dX12_isStill_59 (by decide) ?_
  refine lv_istore_n (lv' := [(3, .int (0 : Int32)), (0, .ref (gb g + x0)), (1, .int x1), (2, .int x2), (4, .int x4)]) hx hb dX12_isStill_60 rfl hl (by decide) rfl (fun ls hl => ?_)
  refine lv_iinc (v := x4 + 1) (lv' := [(4, .int (x4 + 1)), (3, .int (0 : Int32)), (0, .ref (gb g + x0)), (1, .int x1), (2, .int x2)]) hx hb dX12_isStill_61 hl (k := 4) rfl rfl (by decide) rfl (fun ls hl => ?_)
  refine lv_goto (tgt := 5) hx hb dX12_isStill_64 (by decide) ?_
  exact hk5 σ x0 x1 x2 (0 : Int32) (x4 + 1) h hx0 H locs ls S (lv_sub hl [2, 3, 4, 1, 0] rfl)
set_option maxHeartbeats 4000000 in
set_option maxRecDepth 100000 in
theorem w_X12_isStill_5 {l : Launch} {g : GL} {p : Program} {e : Jvm.Env} {s : State} {m : MethodId} {args : Array Value} {below : List Frame} {meth : Method} {c : Code} {R : Nat → Nat → Nat} {L : Nat → Nat → Int64} {r : (Int32 × SI)} {N : Nat} (C : Cx l g p s m meth c cX12_isStill 5 RX12) (hr : meth.sig.returnType = (some .boolean)) (hSh : ShR R) : ∀ (n : Nat) (σ : SI) (x0 : Nat) (x1 : Int32) (x2 : Int32) (x3 : Int32) (x4 : Int32), f_X12_isStill_5 N R n σ x0 x1 x2 x3 x4 = some r → Ok 194 x0 12 → ∀ (H : Heap) (locs : List Loc) (ls : Array Slot), S2 g s σ R L H locs → lv_has ls 5 [(0, .ref (gb g + x0)), (1, .int x1), (2, .int x2), (3, .int x3), (4, .int x4)] → W p l e (rmd 2 0 0) s m args below meth c H locs 0 0 (MQ below (Qg g 194 (PI R L r)) args s 0 0 (gA g)) (F0 m 5 ls []) := by
  have hx := C.1
  have hb := C.2.1
  intro n
  induction n with
  | zero =>
    intro σ x0 x1 x2 x3 x4 h
    cases (show (none : Option (Int32 × SI)) = some r from h)
  | succ n ih =>
    intro σ x0 x1 x2 x3 x4 h hx0 H locs ls S hl
    rw [f_X12_isStill_5] at h
    refine lv_iload hx hb dX12_isStill_5 (lv_at hl 4 rfl) ?_
    refine lv_aload_n hx hb dX12_isStill_7 rfl (lv_at hl 0 rfl) ?_
    refine lv_iload_n hx hb dX12_isStill_8 rfl (lv_at hl 1 rfl) ?_
    refine lv_bipush (v := (9 : Int32)) hx hb dX12_isStill_9 (by decide) ?_
    obtain ⟨a1, σ1, hc1, h⟩ := bd_el h
    refine x_callVI C S KX12 hx0 (ok_X12_ofNear (L := L) hc1 hSh hx0) ⟨cd_X12_ofNear, ni_RX12, ml_RX12_227, in_X12_ofNear, sl_X12_ofNear⟩ ⟨by decide, by decide⟩ rfl ⟨by decide, by decide⟩ hl.1 rfl (Nat.le_of_ble_eq_true rfl) ⟨by decide, by decide⟩ dX12_isStill_11 (fun H locs S => ?_)
    refine lv_icmp_ge (tgt := 67) hx hb dX12_isStill_14 (by decide) (fun c2 => ?_) (fun c2 => ?_)
    · have h := it_p c2 h
      refine lv_iload_n hx hb dX12_isStill_67 rfl (lv_at hl 3 rfl) ?_
      obtain ⟨hb3, h⟩ := cb_el h
      exact x_zret C S hr hb3 h dX12_isStill_68
    · have h := it_n c2 h
      refine lv_iload_n hx hb dX12_isStill_17 rfl (lv_at hl 3 rfl) ?_
      refine lv_if_ne (tgt := 55) hx hb dX12_isStill_18 (by decide) (fun c4 => ?_) (fun c4 => ?_)
      · have h := it_n c4 h
        exact w_X12_isStill_55 C hr hSh ih σ1 x0 x1 x2 x4 h hx0 H locs ls S (lv_sub hl [0, 1, 2, 4] rfl)
      · have h := it_p c4 h
        refine lv_iload_n hx hb dX12_isStill_21 rfl (lv_at hl 2 rfl) ?_
        refine lv_aload_n hx hb dX12_isStill_22 rfl (lv_at hl 0 rfl) ?_
        refine lv_iload_n hx hb dX12_isStill_23 rfl (lv_at hl 1 rfl) ?_
        refine lv_bipush (v := (10 : Int32)) hx hb dX12_isStill_24 (by decide) ?_
        refine lv_iconst (v := (2 : Int32)) hx hb dX12_isStill_26 (by decide) ?_
        refine lv_iload hx hb dX12_isStill_27 (lv_at hl 4 rfl) ?_
        refine lv_imul hx hb dX12_isStill_29 ?_
        refine lv_iadd hx hb dX12_isStill_30 ?_
        obtain ⟨a5, σ5, hc5, h⟩ := bd_el h
        refine x_callVI C S KX12 hx0 (ok_X12_ofNear (L := L) hc5 hSh hx0) ⟨cd_X12_ofNear, ni_RX12, ml_RX12_227, in_X12_ofNear, sl_X12_ofNear⟩ ⟨by decide, by decide⟩ rfl ⟨by decide, by decide⟩ hl.1 rfl (Nat.le_of_ble_eq_true rfl) ⟨by decide, by decide⟩ dX12_isStill_31 (fun H locs S => ?_)
        refine lv_icmp_lt (tgt := 59) hx hb dX12_isStill_34 (by decide) (fun c6 => ?_) (fun c6 => ?_)
        · have h := it_p c6 h
          exact w_X12_isStill_59 C hr hSh ih σ5 x0 x1 x2 x4 h hx0 H locs ls S (lv_sub hl [0, 1, 2, 4] rfl)
        · have h := it_n c6 h
          refine lv_iload_n hx hb dX12_isStill_37 rfl (lv_at hl 2 rfl) ?_
          refine lv_aload_n hx hb dX12_isStill_38 rfl (lv_at hl 0 rfl) ?_
          refine lv_iload_n hx hb dX12_isStill_39 rfl (lv_at hl 1 rfl) ?_
          refine lv_bipush (v := (10 : Int32)) hx hb dX12_isStill_40 (by decide) ?_
          refine lv_iconst (v := (2 : Int32)) hx hb dX12_isStill_42 (by decide) ?_
          refine lv_iload hx hb dX12_isStill_43 (lv_at hl 4 rfl) ?_
          refine lv_imul hx hb dX12_isStill_45 ?_
          refine lv_iadd hx hb dX12_isStill_46 ?_
          refine lv_iconst (v := (1 : Int32)) hx hb dX12_isStill_47 (by decide) ?_
          refine lv_iadd hx hb dX12_isStill_48 ?_
          obtain ⟨a7, σ7, hc7, h⟩ := bd_el h
          refine x_callVI C S KX12 hx0 (ok_X12_ofNear (L := L) hc7 hSh hx0) ⟨cd_X12_ofNear, ni_RX12, ml_RX12_227, in_X12_ofNear, sl_X12_ofNear⟩ ⟨by decide, by decide⟩ rfl ⟨by decide, by decide⟩ hl.1 rfl (Nat.le_of_ble_eq_true rfl) ⟨by decide, by decide⟩ dX12_isStill_49 (fun H locs S => ?_)
          refine lv_icmp_ge (tgt := 59) hx hb dX12_isStill_52 (by decide) (fun c8 => ?_) (fun c8 => ?_)
          · have h := it_p c8 h
            exact w_X12_isStill_59 C hr hSh ih σ7 x0 x1 x2 x4 h hx0 H locs ls S (lv_sub hl [0, 1, 2, 4] rfl)
          · have h := it_n c8 h
            exact w_X12_isStill_55 C hr hSh ih σ7 x0 x1 x2 x4 h hx0 H locs ls S (lv_sub hl [0, 1, 2, 4] rfl)
set_option maxHeartbeats 4000000 in
set_option maxRecDepth 100000 in
theorem ok_X12_isStill {l : Launch} {g : GL} {R : Nat → Nat → Nat} {L : Nat → Nat → Int64} {N : Nat} {σ : SI} {x0 : Nat} {x1 : Int32} {x2 : Int32} {r : (Int32 × SI)} (h : f_X12_isStill N R σ x0 x1 x2 = some r) (hSh : ShR R) (hx0 : Ok 194 x0 12) : Ct l g 2 yX12_isStill cX12_isStill 5 (some .boolean) 194 194 0 0 [.ref (gb g + x0), .int x1, .int x2] (mkS σ R L) (PI R L r) := by
  refine Met.ofW (cc := cX12_isStill) (maxL := 5) (ret := (some .boolean)) (by decide) rfl ?_
  intro p e s m args below meth c s₁ B hml hv
  obtain ⟨rfl, hE, hLo, hWd⟩ := hv
  have hr : meth.sig.returnType = (some .boolean) := B.returns
  have C : Cx l g p s m meth c cX12_isStill 5 RX12 := ⟨B.exec, B.bytes, hml, findClass_of_methodNamed B.named, hE, hLo, B.notSynchronized⟩
  have S : S2 g s σ R L s.heap [] := ⟨hWd, va_S.rf⟩
  have hx := C.1
  have hb := C.2.1
  have hl := lv_entry ([.ref (gb g + x0), .int x1, .int x2]) (n := 5) (Nat.le_of_ble_eq_true rfl)
  rw [lg_entry_eq]
  generalize (lg_sl ([.ref (gb g + x0), .int x1, .int x2]) ++ List.replicate (5 - (lg_sl ([.ref (gb g + x0), .int x1, .int x2])).length) Slot.unset).toArray = ls at hl ⊢
  have hl : lv_has ls 5 [(0, .ref (gb g + x0)), (1, .int x1), (2, .int x2)] := hl
  generalize hH : s.heap = H at S ⊢
  generalize hlc : ([] : List Loc) = locs at S ⊢
  rw [f_X12_isStill] at h
  refine lv_iconst (v := (0 : Int32)) hx hb dX12_isStill_0 (by decide) ?_
  refine lv_istore_n (lv' := [(3, .int (0 : Int32)), (0, .ref (gb g + x0)), (1, .int x1), (2, .int x2)]) hx hb dX12_isStill_1 rfl hl (by decide) rfl (fun ls hl => ?_)
  refine lv_iconst (v := (0 : Int32)) hx hb dX12_isStill_2 (by decide) ?_
  refine lv_istore (lv' := [(4, .int (0 : Int32)), (3, .int (0 : Int32)), (0, .ref (gb g + x0)), (1, .int x1), (2, .int x2)]) hx hb dX12_isStill_3 hl (by decide) rfl (fun ls hl => ?_)
  exact w_X12_isStill_5 C hr hSh N σ x0 x1 x2 (0 : Int32) (0 : Int32) h hx0 H locs ls S (lv_sub hl [2, 3, 4, 1, 0] rfl)
theorem dX12_isQuiet_0 : decode cX12_isQuiet 0 = .ok (.aload_n 0, 1) := by decide +kernel
theorem dX12_isQuiet_1 : decode cX12_isQuiet 1 = .ok (.iconst 0, 1) := by decide +kernel
theorem dX12_isQuiet_2 : decode cX12_isQuiet 2 = .ok (.putfield 3, 3) := by decide +kernel
theorem dX12_isQuiet_5 : decode cX12_isQuiet 5 = .ok (.aload_n 0, 1) := by decide +kernel
theorem dX12_isQuiet_6 : decode cX12_isQuiet 6 = .ok (.iload_n 1, 1) := by decide +kernel
theorem dX12_isQuiet_7 : decode cX12_isQuiet 7 = .ok (.invokevirtual 242, 3) := by decide +kernel
theorem dX12_isQuiet_10 : decode cX12_isQuiet 10 = .ok (.ifCond .ne 16, 3) := by decide +kernel
theorem dX12_isQuiet_13 : decode cX12_isQuiet 13 = .ok (.aload_n 0, 1) := by decide +kernel
theorem dX12_isQuiet_14 : decode cX12_isQuiet 14 = .ok (.iload_n 1, 1) := by decide +kernel
theorem dX12_isQuiet_15 : decode cX12_isQuiet 15 = .ok (.iload_n 2, 1) := by decide +kernel
theorem dX12_isQuiet_16 : decode cX12_isQuiet 16 = .ok (.invokevirtual 263, 3) := by decide +kernel
theorem dX12_isQuiet_19 : decode cX12_isQuiet 19 = .ok (.ifCond .eq 7, 3) := by decide +kernel
theorem dX12_isQuiet_22 : decode cX12_isQuiet 22 = .ok (.iconst 1, 1) := by decide +kernel
theorem dX12_isQuiet_23 : decode cX12_isQuiet 23 = .ok (.goto 4, 3) := by decide +kernel
theorem dX12_isQuiet_26 : decode cX12_isQuiet 26 = .ok (.iconst 0, 1) := by decide +kernel
theorem dX12_isQuiet_27 : decode cX12_isQuiet 27 = .ok (.ireturn, 1) := by decide +kernel
def f_X12_isQuiet (N : Nat) (R : Nat → Nat → Nat) (σ : SI) (x0 : Nat) (x1 : Int32) (x2 : Int32) : Option (Int32 × SI) := sq (up σ x0 0 (0 : Int32)) (fun σ1 => bd (f_X12_noNear N R σ1 x0 x1) (fun a2 σ2 => if a2 = 0 then (bd (f_X12_isStill N R σ2 x0 x1 x2) (fun a4 σ4 => if a4 = 0 then (some ((0 : Int32), σ4)) else (some ((1 : Int32), σ4)))) else (some ((0 : Int32), σ2))))
set_option maxHeartbeats 4000000 in
set_option maxRecDepth 100000 in
theorem ok_X12_isQuiet {l : Launch} {g : GL} {R : Nat → Nat → Nat} {L : Nat → Nat → Int64} {N : Nat} {σ : SI} {x0 : Nat} {x1 : Int32} {x2 : Int32} {r : (Int32 × SI)} (h : f_X12_isQuiet N R σ x0 x1 x2 = some r) (hSh : ShR R) (hx0 : Ok 194 x0 12) : Ct l g 3 yX12_isQuiet cX12_isQuiet 3 (some .boolean) 194 194 0 0 [.ref (gb g + x0), .int x1, .int x2] (mkS σ R L) (PI R L r) := by
  refine Met.ofW (cc := cX12_isQuiet) (maxL := 3) (ret := (some .boolean)) (by decide) rfl ?_
  intro p e s m args below meth c s₁ B hml hv
  obtain ⟨rfl, hE, hLo, hWd⟩ := hv
  have hr : meth.sig.returnType = (some .boolean) := B.returns
  have C : Cx l g p s m meth c cX12_isQuiet 3 RX12 := ⟨B.exec, B.bytes, hml, findClass_of_methodNamed B.named, hE, hLo, B.notSynchronized⟩
  have S : S2 g s σ R L s.heap [] := ⟨hWd, va_S.rf⟩
  have hx := C.1
  have hb := C.2.1
  have hl := lv_entry ([.ref (gb g + x0), .int x1, .int x2]) (n := 3) (Nat.le_of_ble_eq_true rfl)
  rw [lg_entry_eq]
  generalize (lg_sl ([.ref (gb g + x0), .int x1, .int x2]) ++ List.replicate (3 - (lg_sl ([.ref (gb g + x0), .int x1, .int x2])).length) Slot.unset).toArray = ls at hl ⊢
  have hl : lv_has ls 3 [(0, .ref (gb g + x0)), (1, .int x1), (2, .int x2)] := hl
  generalize hH : s.heap = H at S ⊢
  generalize hlc : ([] : List Loc) = locs at S ⊢
  rw [f_X12_isQuiet] at h
  refine lv_aload_n hx hb dX12_isQuiet_0 rfl (lv_at hl 0 rfl) ?_
  refine lv_iconst (v := (0 : Int32)) hx hb dX12_isQuiet_1 (by decide) ?_
  obtain ⟨σ1, hs1, h⟩ := sq_el h
  refine x_putI C S KX12 hx0 0 (by decide) rfl rfl rfl ⟨rfl, rfl⟩ fl_RX12_3 dX12_isQuiet_2 hs1 (fun H locs S => ?_)
  refine lv_aload_n hx hb dX12_isQuiet_5 rfl (lv_at hl 0 rfl) ?_
  refine lv_iload_n hx hb dX12_isQuiet_6 rfl (lv_at hl 1 rfl) ?_
  obtain ⟨a2, σ2, hc2, h⟩ := bd_el h
  refine x_callVI C S KX12 hx0 (ok_X12_noNear (L := L) hc2 hSh hx0) ⟨cd_X12_noNear, ni_RX12, ml_RX12_242, in_X12_noNear, sl_X12_noNear⟩ ⟨by decide, by decide⟩ rfl ⟨by decide, by decide⟩ hl.1 rfl (Nat.le_of_ble_eq_true rfl) ⟨by decide, by decide⟩ dX12_isQuiet_7 (fun H locs S => ?_)
  refine lv_if_ne (tgt := 26) hx hb dX12_isQuiet_10 (by decide) (fun c3 => ?_) (fun c3 => ?_)
  · have h := it_n c3 h
    refine lv_iconst (v := (0 : Int32)) hx hb dX12_isQuiet_26 (by decide) ?_
    exact x_zret C S hr (by decide) h dX12_isQuiet_27
  · have h := it_p c3 h
    refine lv_aload_n hx hb dX12_isQuiet_13 rfl (lv_at hl 0 rfl) ?_
    refine lv_iload_n hx hb dX12_isQuiet_14 rfl (lv_at hl 1 rfl) ?_
    refine lv_iload_n hx hb dX12_isQuiet_15 rfl (lv_at hl 2 rfl) ?_
    obtain ⟨a4, σ4, hc4, h⟩ := bd_el h
    refine x_callVI C S KX12 hx0 (ok_X12_isStill (L := L) hc4 hSh hx0) ⟨cd_X12_isStill, ni_RX12, ml_RX12_263, in_X12_isStill, sl_X12_isStill⟩ ⟨by decide, by decide⟩ rfl ⟨by decide, by decide⟩ hl.1 rfl (Nat.le_of_ble_eq_true rfl) ⟨by decide, by decide⟩ dX12_isQuiet_16 (fun H locs S => ?_)
    refine lv_if_eq (tgt := 26) hx hb dX12_isQuiet_19 (by decide) (fun c5 => ?_) (fun c5 => ?_)
    · have h := it_p c5 h
      refine lv_iconst (v := (0 : Int32)) hx hb dX12_isQuiet_26 (by decide) ?_
      exact x_zret C S hr (by decide) h dX12_isQuiet_27
    · have h := it_n c5 h
      refine lv_iconst (v := (1 : Int32)) hx hb dX12_isQuiet_22 (by decide) ?_
      refine lv_goto (tgt := 27) hx hb dX12_isQuiet_23 (by decide) ?_
      exact x_zret C S hr (by decide) h dX12_isQuiet_27
theorem dX12_quietMinutes_0 : decode cX12_quietMinutes 0 = .ok (.aload_n 0, 1) := by decide +kernel
theorem dX12_quietMinutes_1 : decode cX12_quietMinutes 1 = .ok (.iconst 0, 1) := by decide +kernel
theorem dX12_quietMinutes_2 : decode cX12_quietMinutes 2 = .ok (.putfield 3, 3) := by decide +kernel
theorem dX12_quietMinutes_5 : decode cX12_quietMinutes 5 = .ok (.aload_n 0, 1) := by decide +kernel
theorem dX12_quietMinutes_6 : decode cX12_quietMinutes 6 = .ok (.iload_n 1, 1) := by decide +kernel
theorem dX12_quietMinutes_7 : decode cX12_quietMinutes 7 = .ok (.invokevirtual 242, 3) := by decide +kernel
theorem dX12_quietMinutes_10 : decode cX12_quietMinutes 10 = .ok (.ifCond .eq 5, 3) := by decide +kernel
theorem dX12_quietMinutes_13 : decode cX12_quietMinutes 13 = .ok (.iconst 0, 1) := by decide +kernel
theorem dX12_quietMinutes_14 : decode cX12_quietMinutes 14 = .ok (.ireturn, 1) := by decide +kernel
theorem dX12_quietMinutes_15 : decode cX12_quietMinutes 15 = .ok (.iconst 0, 1) := by decide +kernel
theorem dX12_quietMinutes_16 : decode cX12_quietMinutes 16 = .ok (.istore_n 2, 1) := by decide +kernel
theorem dX12_quietMinutes_17 : decode cX12_quietMinutes 17 = .ok (.iconst 0, 1) := by decide +kernel
theorem dX12_quietMinutes_18 : decode cX12_quietMinutes 18 = .ok (.istore_n 3, 1) := by decide +kernel
theorem dX12_quietMinutes_19 : decode cX12_quietMinutes 19 = .ok (.iload_n 3, 1) := by decide +kernel
theorem dX12_quietMinutes_20 : decode cX12_quietMinutes 20 = .ok (.sipush 1440, 3) := by decide +kernel
theorem dX12_quietMinutes_23 : decode cX12_quietMinutes 23 = .ok (.if_icmp .ge 26, 3) := by decide +kernel
theorem dX12_quietMinutes_26 : decode cX12_quietMinutes 26 = .ok (.iload_n 2, 1) := by decide +kernel
theorem dX12_quietMinutes_27 : decode cX12_quietMinutes 27 = .ok (.aload_n 0, 1) := by decide +kernel
theorem dX12_quietMinutes_28 : decode cX12_quietMinutes 28 = .ok (.iload_n 1, 1) := by decide +kernel
theorem dX12_quietMinutes_29 : decode cX12_quietMinutes 29 = .ok (.iload_n 3, 1) := by decide +kernel
theorem dX12_quietMinutes_30 : decode cX12_quietMinutes 30 = .ok (.invokevirtual 263, 3) := by decide +kernel
theorem dX12_quietMinutes_33 : decode cX12_quietMinutes 33 = .ok (.ifCond .eq 7, 3) := by decide +kernel
theorem dX12_quietMinutes_36 : decode cX12_quietMinutes 36 = .ok (.iconst 1, 1) := by decide +kernel
theorem dX12_quietMinutes_37 : decode cX12_quietMinutes 37 = .ok (.goto 4, 3) := by decide +kernel
theorem dX12_quietMinutes_40 : decode cX12_quietMinutes 40 = .ok (.iconst 0, 1) := by decide +kernel
theorem dX12_quietMinutes_41 : decode cX12_quietMinutes 41 = .ok (.iadd, 1) := by decide +kernel
theorem dX12_quietMinutes_42 : decode cX12_quietMinutes 42 = .ok (.istore_n 2, 1) := by decide +kernel
theorem dX12_quietMinutes_43 : decode cX12_quietMinutes 43 = .ok (.iinc 3 1, 3) := by decide +kernel
theorem dX12_quietMinutes_46 : decode cX12_quietMinutes 46 = .ok (.goto (-27), 3) := by decide +kernel
theorem dX12_quietMinutes_49 : decode cX12_quietMinutes 49 = .ok (.iload_n 2, 1) := by decide +kernel
theorem dX12_quietMinutes_50 : decode cX12_quietMinutes 50 = .ok (.ireturn, 1) := by decide +kernel
def f_X12_quietMinutes_19 (N : Nat) (R : Nat → Nat → Nat) : Nat → SI → Nat → Int32 → Int32 → Int32 → Option (Int32 × SI)
  | 0, _, _, _, _, _ => none
  | n + 1, σ, x0, x1, x2, x3 => if (1440 : Int32) ≤ x3 then (some (x2, σ)) else (bd (f_X12_isStill N R σ x0 x1 x3) (fun a5 σ5 => if a5 = 0 then (f_X12_quietMinutes_19 N R n σ5 x0 x1 (x2 + (0 : Int32)) (x3 + 1)) else (f_X12_quietMinutes_19 N R n σ5 x0 x1 (x2 + (1 : Int32)) (x3 + 1))))
def f_X12_quietMinutes (N : Nat) (R : Nat → Nat → Nat) (σ : SI) (x0 : Nat) (x1 : Int32) : Option (Int32 × SI) := sq (up σ x0 0 (0 : Int32)) (fun σ1 => bd (f_X12_noNear N R σ1 x0 x1) (fun a2 σ2 => if a2 = 0 then (f_X12_quietMinutes_19 N R N σ2 x0 x1 (0 : Int32) (0 : Int32)) else (some ((0 : Int32), σ2))))
set_option maxHeartbeats 4000000 in
set_option maxRecDepth 100000 in
theorem w_X12_quietMinutes_19 {l : Launch} {g : GL} {p : Program} {e : Jvm.Env} {s : State} {m : MethodId} {args : Array Value} {below : List Frame} {meth : Method} {c : Code} {R : Nat → Nat → Nat} {L : Nat → Nat → Int64} {r : (Int32 × SI)} {N : Nat} (C : Cx l g p s m meth c cX12_quietMinutes 4 RX12) (hr : meth.sig.returnType = (some .int)) (hSh : ShR R) : ∀ (n : Nat) (σ : SI) (x0 : Nat) (x1 : Int32) (x2 : Int32) (x3 : Int32), f_X12_quietMinutes_19 N R n σ x0 x1 x2 x3 = some r → Ok 194 x0 12 → ∀ (H : Heap) (locs : List Loc) (ls : Array Slot), S2 g s σ R L H locs → lv_has ls 4 [(0, .ref (gb g + x0)), (1, .int x1), (2, .int x2), (3, .int x3)] → W p l e (rmd 3 0 0) s m args below meth c H locs 0 0 (MQ below (Qg g 194 (PI R L r)) args s 0 0 (gA g)) (F0 m 19 ls []) := by
  have hx := C.1
  have hb := C.2.1
  intro n
  induction n with
  | zero =>
    intro σ x0 x1 x2 x3 h
    cases (show (none : Option (Int32 × SI)) = some r from h)
  | succ n ih =>
    intro σ x0 x1 x2 x3 h hx0 H locs ls S hl
    rw [f_X12_quietMinutes_19] at h
    refine lv_iload_n hx hb dX12_quietMinutes_19 rfl (lv_at hl 3 rfl) ?_
    refine lv_sipush (v := (1440 : Int32)) hx hb dX12_quietMinutes_20 (by decide) ?_
    refine lv_icmp_ge (tgt := 49) hx hb dX12_quietMinutes_23 (by decide) (fun c4 => ?_) (fun c4 => ?_)
    · have h := it_p c4 h
      refine lv_iload_n hx hb dX12_quietMinutes_49 rfl (lv_at hl 2 rfl) ?_
      exact x_iret C S hr h dX12_quietMinutes_50
    · have h := it_n c4 h
      refine lv_iload_n hx hb dX12_quietMinutes_26 rfl (lv_at hl 2 rfl) ?_
      refine lv_aload_n hx hb dX12_quietMinutes_27 rfl (lv_at hl 0 rfl) ?_
      refine lv_iload_n hx hb dX12_quietMinutes_28 rfl (lv_at hl 1 rfl) ?_
      refine lv_iload_n hx hb dX12_quietMinutes_29 rfl (lv_at hl 3 rfl) ?_
      obtain ⟨a5, σ5, hc5, h⟩ := bd_el h
      refine x_callVI C S KX12 hx0 (ok_X12_isStill (L := L) hc5 hSh hx0) ⟨cd_X12_isStill, ni_RX12, ml_RX12_263, in_X12_isStill, sl_X12_isStill⟩ ⟨by decide, by decide⟩ rfl ⟨by decide, by decide⟩ hl.1 rfl (Nat.le_of_ble_eq_true rfl) ⟨by decide, by decide⟩ dX12_quietMinutes_30 (fun H locs S => ?_)
      refine lv_if_eq (tgt := 40) hx hb dX12_quietMinutes_33 (by decide) (fun c6 => ?_) (fun c6 => ?_)
      · have h := it_p c6 h
        refine lv_iconst (v := (0 : Int32)) hx hb dX12_quietMinutes_40 (by decide) ?_
        refine lv_iadd hx hb dX12_quietMinutes_41 ?_
        refine lv_istore_n (lv' := [(2, .int (x2 + (0 : Int32))), (0, .ref (gb g + x0)), (1, .int x1), (3, .int x3)]) hx hb dX12_quietMinutes_42 rfl hl (by decide) rfl (fun ls hl => ?_)
        refine lv_iinc (v := x3 + 1) (lv' := [(3, .int (x3 + 1)), (2, .int (x2 + (0 : Int32))), (0, .ref (gb g + x0)), (1, .int x1)]) hx hb dX12_quietMinutes_43 hl (k := 3) rfl rfl (by decide) rfl (fun ls hl => ?_)
        refine lv_goto (tgt := 19) hx hb dX12_quietMinutes_46 (by decide) ?_
        exact ih σ5 x0 x1 (x2 + (0 : Int32)) (x3 + 1) h hx0 H locs ls S (lv_sub hl [2, 3, 1, 0] rfl)
      · have h := it_n c6 h
        refine lv_iconst (v := (1 : Int32)) hx hb dX12_quietMinutes_36 (by decide) ?_
        refine lv_goto (tgt := 41) hx hb dX12_quietMinutes_37 (by decide) ?_
        refine lv_iadd hx hb dX12_quietMinutes_41 ?_
        refine lv_istore_n (lv' := [(2, .int (x2 + (1 : Int32))), (0, .ref (gb g + x0)), (1, .int x1), (3, .int x3)]) hx hb dX12_quietMinutes_42 rfl hl (by decide) rfl (fun ls hl => ?_)
        refine lv_iinc (v := x3 + 1) (lv' := [(3, .int (x3 + 1)), (2, .int (x2 + (1 : Int32))), (0, .ref (gb g + x0)), (1, .int x1)]) hx hb dX12_quietMinutes_43 hl (k := 3) rfl rfl (by decide) rfl (fun ls hl => ?_)
        refine lv_goto (tgt := 19) hx hb dX12_quietMinutes_46 (by decide) ?_
        exact ih σ5 x0 x1 (x2 + (1 : Int32)) (x3 + 1) h hx0 H locs ls S (lv_sub hl [2, 3, 1, 0] rfl)
set_option maxHeartbeats 4000000 in
set_option maxRecDepth 100000 in
theorem ok_X12_quietMinutes {l : Launch} {g : GL} {R : Nat → Nat → Nat} {L : Nat → Nat → Int64} {N : Nat} {σ : SI} {x0 : Nat} {x1 : Int32} {r : (Int32 × SI)} (h : f_X12_quietMinutes N R σ x0 x1 = some r) (hSh : ShR R) (hx0 : Ok 194 x0 12) : Ct l g 3 yX12_quietMinutes cX12_quietMinutes 4 (some .int) 194 194 0 0 [.ref (gb g + x0), .int x1] (mkS σ R L) (PI R L r) := by
  refine Met.ofW (cc := cX12_quietMinutes) (maxL := 4) (ret := (some .int)) (by decide) rfl ?_
  intro p e s m args below meth c s₁ B hml hv
  obtain ⟨rfl, hE, hLo, hWd⟩ := hv
  have hr : meth.sig.returnType = (some .int) := B.returns
  have C : Cx l g p s m meth c cX12_quietMinutes 4 RX12 := ⟨B.exec, B.bytes, hml, findClass_of_methodNamed B.named, hE, hLo, B.notSynchronized⟩
  have S : S2 g s σ R L s.heap [] := ⟨hWd, va_S.rf⟩
  have hx := C.1
  have hb := C.2.1
  have hl := lv_entry ([.ref (gb g + x0), .int x1]) (n := 4) (Nat.le_of_ble_eq_true rfl)
  rw [lg_entry_eq]
  generalize (lg_sl ([.ref (gb g + x0), .int x1]) ++ List.replicate (4 - (lg_sl ([.ref (gb g + x0), .int x1])).length) Slot.unset).toArray = ls at hl ⊢
  have hl : lv_has ls 4 [(0, .ref (gb g + x0)), (1, .int x1)] := hl
  generalize hH : s.heap = H at S ⊢
  generalize hlc : ([] : List Loc) = locs at S ⊢
  rw [f_X12_quietMinutes] at h
  refine lv_aload_n hx hb dX12_quietMinutes_0 rfl (lv_at hl 0 rfl) ?_
  refine lv_iconst (v := (0 : Int32)) hx hb dX12_quietMinutes_1 (by decide) ?_
  obtain ⟨σ1, hs1, h⟩ := sq_el h
  refine x_putI C S KX12 hx0 0 (by decide) rfl rfl rfl ⟨rfl, rfl⟩ fl_RX12_3 dX12_quietMinutes_2 hs1 (fun H locs S => ?_)
  refine lv_aload_n hx hb dX12_quietMinutes_5 rfl (lv_at hl 0 rfl) ?_
  refine lv_iload_n hx hb dX12_quietMinutes_6 rfl (lv_at hl 1 rfl) ?_
  obtain ⟨a2, σ2, hc2, h⟩ := bd_el h
  refine x_callVI C S KX12 hx0 (ok_X12_noNear (L := L) hc2 hSh hx0) ⟨cd_X12_noNear, ni_RX12, ml_RX12_242, in_X12_noNear, sl_X12_noNear⟩ ⟨by decide, by decide⟩ rfl ⟨by decide, by decide⟩ hl.1 rfl (Nat.le_of_ble_eq_true rfl) ⟨by decide, by decide⟩ dX12_quietMinutes_7 (fun H locs S => ?_)
  refine lv_if_eq (tgt := 15) hx hb dX12_quietMinutes_10 (by decide) (fun c3 => ?_) (fun c3 => ?_)
  · have h := it_p c3 h
    refine lv_iconst (v := (0 : Int32)) hx hb dX12_quietMinutes_15 (by decide) ?_
    refine lv_istore_n (lv' := [(2, .int (0 : Int32)), (0, .ref (gb g + x0)), (1, .int x1)]) hx hb dX12_quietMinutes_16 rfl hl (by decide) rfl (fun ls hl => ?_)
    refine lv_iconst (v := (0 : Int32)) hx hb dX12_quietMinutes_17 (by decide) ?_
    refine lv_istore_n (lv' := [(3, .int (0 : Int32)), (2, .int (0 : Int32)), (0, .ref (gb g + x0)), (1, .int x1)]) hx hb dX12_quietMinutes_18 rfl hl (by decide) rfl (fun ls hl => ?_)
    exact w_X12_quietMinutes_19 C hr hSh N σ2 x0 x1 (0 : Int32) (0 : Int32) h hx0 H locs ls S (lv_sub hl [2, 3, 1, 0] rfl)
  · have h := it_n c3 h
    refine lv_iconst (v := (0 : Int32)) hx hb dX12_quietMinutes_13 (by decide) ?_
    exact x_iret C S hr h dX12_quietMinutes_14
theorem dX12_stepX_0 : decode cX12_stepX 0 = .ok (.iload_n 0, 1) := by decide +kernel
theorem dX12_stepX_1 : decode cX12_stepX 1 = .ok (.ifCond .eq 8, 3) := by decide +kernel
theorem dX12_stepX_4 : decode cX12_stepX 4 = .ok (.iload_n 0, 1) := by decide +kernel
theorem dX12_stepX_5 : decode cX12_stepX 5 = .ok (.iconst 4, 1) := by decide +kernel
theorem dX12_stepX_6 : decode cX12_stepX 6 = .ok (.if_icmp .ne 7, 3) := by decide +kernel
theorem dX12_stepX_9 : decode cX12_stepX 9 = .ok (.iconst 0, 1) := by decide +kernel
theorem dX12_stepX_10 : decode cX12_stepX 10 = .ok (.goto 13, 3) := by decide +kernel
theorem dX12_stepX_13 : decode cX12_stepX 13 = .ok (.iload_n 0, 1) := by decide +kernel
theorem dX12_stepX_14 : decode cX12_stepX 14 = .ok (.iconst 4, 1) := by decide +kernel
theorem dX12_stepX_15 : decode cX12_stepX 15 = .ok (.if_icmp .ge 7, 3) := by decide +kernel
theorem dX12_stepX_18 : decode cX12_stepX 18 = .ok (.iconst 1, 1) := by decide +kernel
theorem dX12_stepX_19 : decode cX12_stepX 19 = .ok (.goto 4, 3) := by decide +kernel
theorem dX12_stepX_22 : decode cX12_stepX 22 = .ok (.iconst (-1), 1) := by decide +kernel
theorem dX12_stepX_23 : decode cX12_stepX 23 = .ok (.ireturn, 1) := by decide +kernel
def f_X12_stepX_9 (N : Nat) (R : Nat → Nat → Nat) (σ : SI) : Option (Int32 × SI) := some ((0 : Int32), σ)
def f_X12_stepX (N : Nat) (R : Nat → Nat → Nat) (σ : SI) (x0 : Int32) : Option (Int32 × SI) := if x0 = 0 then (f_X12_stepX_9 N R σ) else (if x0 = (4 : Int32) then (f_X12_stepX_9 N R σ) else (if (4 : Int32) ≤ x0 then (some ((-1 : Int32), σ)) else (some ((1 : Int32), σ))))
set_option maxHeartbeats 4000000 in
set_option maxRecDepth 100000 in
theorem w_X12_stepX_9 {l : Launch} {g : GL} {p : Program} {e : Jvm.Env} {s : State} {m : MethodId} {args : Array Value} {below : List Frame} {meth : Method} {c : Code} {R : Nat → Nat → Nat} {L : Nat → Nat → Int64} {r : (Int32 × SI)} {N : Nat} (C : Cx l g p s m meth c cX12_stepX 1 RX12) (hr : meth.sig.returnType = (some .int)) (hSh : ShR R) : ∀ (σ : SI), f_X12_stepX_9 N R σ = some r → ∀ (H : Heap) (locs : List Loc) (ls : Array Slot), S2 g s σ R L H locs → lv_has ls 1 [] → W p l e (rmd 1 0 0) s m args below meth c H locs 0 0 (MQ below (Qg g 194 (PI R L r)) args s 0 0 (gA g)) (F0 m 9 ls []) := by
  have hx := C.1
  have hb := C.2.1
  intro σ h H locs ls S hl
  rw [f_X12_stepX_9] at h
  refine lv_iconst (v := (0 : Int32)) hx hb dX12_stepX_9 (by decide) ?_
  refine lv_goto (tgt := 23) hx hb dX12_stepX_10 (by decide) ?_
  exact x_iret C S hr h dX12_stepX_23
set_option maxHeartbeats 4000000 in
set_option maxRecDepth 100000 in
theorem ok_X12_stepX {l : Launch} {g : GL} {R : Nat → Nat → Nat} {L : Nat → Nat → Int64} {N : Nat} {σ : SI} {x0 : Int32} {r : (Int32 × SI)} (h : f_X12_stepX N R σ x0 = some r) (hSh : ShR R) : Ct l g 1 yX12_stepX cX12_stepX 1 (some .int) 194 194 0 0 [.int x0] (mkS σ R L) (PI R L r) := by
  refine Met.ofW (cc := cX12_stepX) (maxL := 1) (ret := (some .int)) (by decide) rfl ?_
  intro p e s m args below meth c s₁ B hml hv
  obtain ⟨rfl, hE, hLo, hWd⟩ := hv
  have hr : meth.sig.returnType = (some .int) := B.returns
  have C : Cx l g p s m meth c cX12_stepX 1 RX12 := ⟨B.exec, B.bytes, hml, findClass_of_methodNamed B.named, hE, hLo, B.notSynchronized⟩
  have S : S2 g s σ R L s.heap [] := ⟨hWd, va_S.rf⟩
  have hx := C.1
  have hb := C.2.1
  have hl := lv_entry ([.int x0]) (n := 1) (Nat.le_of_ble_eq_true rfl)
  rw [lg_entry_eq]
  generalize (lg_sl ([.int x0]) ++ List.replicate (1 - (lg_sl ([.int x0])).length) Slot.unset).toArray = ls at hl ⊢
  have hl : lv_has ls 1 [(0, .int x0)] := hl
  generalize hH : s.heap = H at S ⊢
  generalize hlc : ([] : List Loc) = locs at S ⊢
  rw [f_X12_stepX] at h
  refine lv_iload_n hx hb dX12_stepX_0 rfl (lv_at hl 0 rfl) ?_
  refine lv_if_eq (tgt := 9) hx hb dX12_stepX_1 (by decide) (fun c1 => ?_) (fun c1 => ?_)
  · have h := it_p c1 h
    exact w_X12_stepX_9 C hr hSh σ h H locs ls S (lv_sub hl [] rfl)
  · have h := it_n c1 h
    refine lv_iload_n hx hb dX12_stepX_4 rfl (lv_at hl 0 rfl) ?_
    refine lv_iconst (v := (4 : Int32)) hx hb dX12_stepX_5 (by decide) ?_
    refine lv_icmp_ne (tgt := 13) hx hb dX12_stepX_6 (by decide) (fun c2 => ?_) (fun c2 => ?_)
    · have h := it_n c2 h
      refine lv_iload_n hx hb dX12_stepX_13 rfl (lv_at hl 0 rfl) ?_
      refine lv_iconst (v := (4 : Int32)) hx hb dX12_stepX_14 (by decide) ?_
      refine lv_icmp_ge (tgt := 22) hx hb dX12_stepX_15 (by decide) (fun c3 => ?_) (fun c3 => ?_)
      · have h := it_p c3 h
        refine lv_iconst (v := (-1 : Int32)) hx hb dX12_stepX_22 (by decide) ?_
        exact x_iret C S hr h dX12_stepX_23
      · have h := it_n c3 h
        refine lv_iconst (v := (1 : Int32)) hx hb dX12_stepX_18 (by decide) ?_
        refine lv_goto (tgt := 23) hx hb dX12_stepX_19 (by decide) ?_
        exact x_iret C S hr h dX12_stepX_23
    · have h := it_p c2 h
      exact w_X12_stepX_9 C hr hSh σ h H locs ls S (lv_sub hl [] rfl)
theorem dX12_stepY_0 : decode cX12_stepY 0 = .ok (.iload_n 0, 1) := by decide +kernel
theorem dX12_stepY_1 : decode cX12_stepY 1 = .ok (.iconst 2, 1) := by decide +kernel
theorem dX12_stepY_2 : decode cX12_stepY 2 = .ok (.if_icmp .eq 9, 3) := by decide +kernel
theorem dX12_stepY_5 : decode cX12_stepY 5 = .ok (.iload_n 0, 1) := by decide +kernel
theorem dX12_stepY_6 : decode cX12_stepY 6 = .ok (.bipush 6, 2) := by decide +kernel
theorem dX12_stepY_8 : decode cX12_stepY 8 = .ok (.if_icmp .ne 7, 3) := by decide +kernel
theorem dX12_stepY_11 : decode cX12_stepY 11 = .ok (.iconst 0, 1) := by decide +kernel
theorem dX12_stepY_12 : decode cX12_stepY 12 = .ok (.goto 19, 3) := by decide +kernel
theorem dX12_stepY_15 : decode cX12_stepY 15 = .ok (.iload_n 0, 1) := by decide +kernel
theorem dX12_stepY_16 : decode cX12_stepY 16 = .ok (.iconst 2, 1) := by decide +kernel
theorem dX12_stepY_17 : decode cX12_stepY 17 = .ok (.if_icmp .le 13, 3) := by decide +kernel
theorem dX12_stepY_20 : decode cX12_stepY 20 = .ok (.iload_n 0, 1) := by decide +kernel
theorem dX12_stepY_21 : decode cX12_stepY 21 = .ok (.bipush 6, 2) := by decide +kernel
theorem dX12_stepY_23 : decode cX12_stepY 23 = .ok (.if_icmp .ge 7, 3) := by decide +kernel
theorem dX12_stepY_26 : decode cX12_stepY 26 = .ok (.iconst 1, 1) := by decide +kernel
theorem dX12_stepY_27 : decode cX12_stepY 27 = .ok (.goto 4, 3) := by decide +kernel
theorem dX12_stepY_30 : decode cX12_stepY 30 = .ok (.iconst (-1), 1) := by decide +kernel
theorem dX12_stepY_31 : decode cX12_stepY 31 = .ok (.ireturn, 1) := by decide +kernel
def f_X12_stepY_11 (N : Nat) (R : Nat → Nat → Nat) (σ : SI) : Option (Int32 × SI) := some ((0 : Int32), σ)
def f_X12_stepY (N : Nat) (R : Nat → Nat → Nat) (σ : SI) (x0 : Int32) : Option (Int32 × SI) := if x0 = (2 : Int32) then (f_X12_stepY_11 N R σ) else (if x0 = (6 : Int32) then (f_X12_stepY_11 N R σ) else (if x0 ≤ (2 : Int32) then (some ((-1 : Int32), σ)) else (if (6 : Int32) ≤ x0 then (some ((-1 : Int32), σ)) else (some ((1 : Int32), σ)))))
set_option maxHeartbeats 4000000 in
set_option maxRecDepth 100000 in
theorem w_X12_stepY_11 {l : Launch} {g : GL} {p : Program} {e : Jvm.Env} {s : State} {m : MethodId} {args : Array Value} {below : List Frame} {meth : Method} {c : Code} {R : Nat → Nat → Nat} {L : Nat → Nat → Int64} {r : (Int32 × SI)} {N : Nat} (C : Cx l g p s m meth c cX12_stepY 1 RX12) (hr : meth.sig.returnType = (some .int)) (hSh : ShR R) : ∀ (σ : SI), f_X12_stepY_11 N R σ = some r → ∀ (H : Heap) (locs : List Loc) (ls : Array Slot), S2 g s σ R L H locs → lv_has ls 1 [] → W p l e (rmd 1 0 0) s m args below meth c H locs 0 0 (MQ below (Qg g 194 (PI R L r)) args s 0 0 (gA g)) (F0 m 11 ls []) := by
  have hx := C.1
  have hb := C.2.1
  intro σ h H locs ls S hl
  rw [f_X12_stepY_11] at h
  refine lv_iconst (v := (0 : Int32)) hx hb dX12_stepY_11 (by decide) ?_
  refine lv_goto (tgt := 31) hx hb dX12_stepY_12 (by decide) ?_
  exact x_iret C S hr h dX12_stepY_31
set_option maxHeartbeats 4000000 in
set_option maxRecDepth 100000 in
theorem ok_X12_stepY {l : Launch} {g : GL} {R : Nat → Nat → Nat} {L : Nat → Nat → Int64} {N : Nat} {σ : SI} {x0 : Int32} {r : (Int32 × SI)} (h : f_X12_stepY N R σ x0 = some r) (hSh : ShR R) : Ct l g 1 yX12_stepY cX12_stepY 1 (some .int) 194 194 0 0 [.int x0] (mkS σ R L) (PI R L r) := by
  refine Met.ofW (cc := cX12_stepY) (maxL := 1) (ret := (some .int)) (by decide) rfl ?_
  intro p e s m args below meth c s₁ B hml hv
  obtain ⟨rfl, hE, hLo, hWd⟩ := hv
  have hr : meth.sig.returnType = (some .int) := B.returns
  have C : Cx l g p s m meth c cX12_stepY 1 RX12 := ⟨B.exec, B.bytes, hml, findClass_of_methodNamed B.named, hE, hLo, B.notSynchronized⟩
  have S : S2 g s σ R L s.heap [] := ⟨hWd, va_S.rf⟩
  have hx := C.1
  have hb := C.2.1
  have hl := lv_entry ([.int x0]) (n := 1) (Nat.le_of_ble_eq_true rfl)
  rw [lg_entry_eq]
  generalize (lg_sl ([.int x0]) ++ List.replicate (1 - (lg_sl ([.int x0])).length) Slot.unset).toArray = ls at hl ⊢
  have hl : lv_has ls 1 [(0, .int x0)] := hl
  generalize hH : s.heap = H at S ⊢
  generalize hlc : ([] : List Loc) = locs at S ⊢
  rw [f_X12_stepY] at h
  refine lv_iload_n hx hb dX12_stepY_0 rfl (lv_at hl 0 rfl) ?_
  refine lv_iconst (v := (2 : Int32)) hx hb dX12_stepY_1 (by decide) ?_
  refine lv_icmp_eq (tgt := 11) hx hb dX12_stepY_2 (by decide) (fun c1 => ?_) (fun c1 => ?_)
  · have h := it_p c1 h
    exact w_X12_stepY_11 C hr hSh σ h H locs ls S (lv_sub hl [] rfl)
  · have h := it_n c1 h
    refine lv_iload_n hx hb dX12_stepY_5 rfl (lv_at hl 0 rfl) ?_
    refine lv_bipush (v := (6 : Int32)) hx hb dX12_stepY_6 (by decide) ?_
    refine lv_icmp_ne (tgt := 15) hx hb dX12_stepY_8 (by decide) (fun c2 => ?_) (fun c2 => ?_)
    · have h := it_n c2 h
      refine lv_iload_n hx hb dX12_stepY_15 rfl (lv_at hl 0 rfl) ?_
      refine lv_iconst (v := (2 : Int32)) hx hb dX12_stepY_16 (by decide) ?_
      refine lv_icmp_le (tgt := 30) hx hb dX12_stepY_17 (by decide) (fun c3 => ?_) (fun c3 => ?_)
      · have h := it_p c3 h
        refine lv_iconst (v := (-1 : Int32)) hx hb dX12_stepY_30 (by decide) ?_
        exact x_iret C S hr h dX12_stepY_31
      · have h := it_n c3 h
        refine lv_iload_n hx hb dX12_stepY_20 rfl (lv_at hl 0 rfl) ?_
        refine lv_bipush (v := (6 : Int32)) hx hb dX12_stepY_21 (by decide) ?_
        refine lv_icmp_ge (tgt := 30) hx hb dX12_stepY_23 (by decide) (fun c4 => ?_) (fun c4 => ?_)
        · have h := it_p c4 h
          refine lv_iconst (v := (-1 : Int32)) hx hb dX12_stepY_30 (by decide) ?_
          exact x_iret C S hr h dX12_stepY_31
        · have h := it_n c4 h
          refine lv_iconst (v := (1 : Int32)) hx hb dX12_stepY_26 (by decide) ?_
          refine lv_goto (tgt := 31) hx hb dX12_stepY_27 (by decide) ?_
          exact x_iret C S hr h dX12_stepY_31
    · have h := it_p c2 h
      exact w_X12_stepY_11 C hr hSh σ h H locs ls S (lv_sub hl [] rfl)
theorem dX12_isDusty_0 : decode cX12_isDusty 0 = .ok (.bipush 9, 2) := by decide +kernel
theorem dX12_isDusty_2 : decode cX12_isDusty 2 = .ok (.iconst 3, 1) := by decide +kernel
theorem dX12_isDusty_3 : decode cX12_isDusty 3 = .ok (.iload_n 3, 1) := by decide +kernel
theorem dX12_isDusty_4 : decode cX12_isDusty 4 = .ok (.imul, 1) := by decide +kernel
theorem dX12_isDusty_5 : decode cX12_isDusty 5 = .ok (.iadd, 1) := by decide +kernel
theorem dX12_isDusty_6 : decode cX12_isDusty 6 = .ok (.istore 4, 2) := by decide +kernel
theorem dX12_isDusty_8 : decode cX12_isDusty 8 = .ok (.aload_n 0, 1) := by decide +kernel
theorem dX12_isDusty_9 : decode cX12_isDusty 9 = .ok (.getfield 88, 3) := by decide +kernel
theorem dX12_isDusty_12 : decode cX12_isDusty 12 = .ok (.iload 4, 2) := by decide +kernel
theorem dX12_isDusty_14 : decode cX12_isDusty 14 = .ok (.iaload, 1) := by decide +kernel
theorem dX12_isDusty_15 : decode cX12_isDusty 15 = .ok (.ifCond .ne 5, 3) := by decide +kernel
theorem dX12_isDusty_18 : decode cX12_isDusty 18 = .ok (.iconst 0, 1) := by decide +kernel
theorem dX12_isDusty_19 : decode cX12_isDusty 19 = .ok (.ireturn, 1) := by decide +kernel
theorem dX12_isDusty_20 : decode cX12_isDusty 20 = .ok (.aload_n 0, 1) := by decide +kernel
theorem dX12_isDusty_21 : decode cX12_isDusty 21 = .ok (.iload_n 2, 1) := by decide +kernel
theorem dX12_isDusty_22 : decode cX12_isDusty 22 = .ok (.bipush 6, 2) := by decide +kernel
theorem dX12_isDusty_24 : decode cX12_isDusty 24 = .ok (.invokevirtual 227, 3) := by decide +kernel
theorem dX12_isDusty_27 : decode cX12_isDusty 27 = .ok (.aload_n 0, 1) := by decide +kernel
theorem dX12_isDusty_28 : decode cX12_isDusty 28 = .ok (.iload_n 1, 1) := by decide +kernel
theorem dX12_isDusty_29 : decode cX12_isDusty 29 = .ok (.bipush 6, 2) := by decide +kernel
theorem dX12_isDusty_31 : decode cX12_isDusty 31 = .ok (.invokevirtual 192, 3) := by decide +kernel
theorem dX12_isDusty_34 : decode cX12_isDusty 34 = .ok (.isub, 1) := by decide +kernel
theorem dX12_isDusty_35 : decode cX12_isDusty 35 = .ok (.istore 5, 2) := by decide +kernel
theorem dX12_isDusty_37 : decode cX12_isDusty 37 = .ok (.aload_n 0, 1) := by decide +kernel
theorem dX12_isDusty_38 : decode cX12_isDusty 38 = .ok (.iload_n 2, 1) := by decide +kernel
theorem dX12_isDusty_39 : decode cX12_isDusty 39 = .ok (.bipush 7, 2) := by decide +kernel
theorem dX12_isDusty_41 : decode cX12_isDusty 41 = .ok (.invokevirtual 227, 3) := by decide +kernel
theorem dX12_isDusty_44 : decode cX12_isDusty 44 = .ok (.aload_n 0, 1) := by decide +kernel
theorem dX12_isDusty_45 : decode cX12_isDusty 45 = .ok (.iload_n 1, 1) := by decide +kernel
theorem dX12_isDusty_46 : decode cX12_isDusty 46 = .ok (.bipush 7, 2) := by decide +kernel
theorem dX12_isDusty_48 : decode cX12_isDusty 48 = .ok (.invokevirtual 192, 3) := by decide +kernel
theorem dX12_isDusty_51 : decode cX12_isDusty 51 = .ok (.isub, 1) := by decide +kernel
theorem dX12_isDusty_52 : decode cX12_isDusty 52 = .ok (.istore 6, 2) := by decide +kernel
theorem dX12_isDusty_54 : decode cX12_isDusty 54 = .ok (.aload_n 0, 1) := by decide +kernel
theorem dX12_isDusty_55 : decode cX12_isDusty 55 = .ok (.getfield 88, 3) := by decide +kernel
theorem dX12_isDusty_58 : decode cX12_isDusty 58 = .ok (.iload 4, 2) := by decide +kernel
theorem dX12_isDusty_60 : decode cX12_isDusty 60 = .ok (.iconst 1, 1) := by decide +kernel
theorem dX12_isDusty_61 : decode cX12_isDusty 61 = .ok (.iadd, 1) := by decide +kernel
theorem dX12_isDusty_62 : decode cX12_isDusty 62 = .ok (.iaload, 1) := by decide +kernel
theorem dX12_isDusty_63 : decode cX12_isDusty 63 = .ok (.invokestatic 266, 3) := by decide +kernel
theorem dX12_isDusty_66 : decode cX12_isDusty 66 = .ok (.istore 7, 2) := by decide +kernel
theorem dX12_isDusty_68 : decode cX12_isDusty 68 = .ok (.aload_n 0, 1) := by decide +kernel
theorem dX12_isDusty_69 : decode cX12_isDusty 69 = .ok (.getfield 88, 3) := by decide +kernel
theorem dX12_isDusty_72 : decode cX12_isDusty 72 = .ok (.iload 4, 2) := by decide +kernel
theorem dX12_isDusty_74 : decode cX12_isDusty 74 = .ok (.iconst 1, 1) := by decide +kernel
theorem dX12_isDusty_75 : decode cX12_isDusty 75 = .ok (.iadd, 1) := by decide +kernel
theorem dX12_isDusty_76 : decode cX12_isDusty 76 = .ok (.iaload, 1) := by decide +kernel
theorem dX12_isDusty_77 : decode cX12_isDusty 77 = .ok (.invokestatic 269, 3) := by decide +kernel
theorem dX12_isDusty_80 : decode cX12_isDusty 80 = .ok (.istore 8, 2) := by decide +kernel
theorem dX12_isDusty_82 : decode cX12_isDusty 82 = .ok (.iload 5, 2) := by decide +kernel
theorem dX12_isDusty_84 : decode cX12_isDusty 84 = .ok (.iload 7, 2) := by decide +kernel
theorem dX12_isDusty_86 : decode cX12_isDusty 86 = .ok (.imul, 1) := by decide +kernel
theorem dX12_isDusty_87 : decode cX12_isDusty 87 = .ok (.iload 6, 2) := by decide +kernel
theorem dX12_isDusty_89 : decode cX12_isDusty 89 = .ok (.iload 8, 2) := by decide +kernel
theorem dX12_isDusty_91 : decode cX12_isDusty 91 = .ok (.imul, 1) := by decide +kernel
theorem dX12_isDusty_92 : decode cX12_isDusty 92 = .ok (.iadd, 1) := by decide +kernel
theorem dX12_isDusty_93 : decode cX12_isDusty 93 = .ok (.istore 9, 2) := by decide +kernel
theorem dX12_isDusty_95 : decode cX12_isDusty 95 = .ok (.bipush 50, 2) := by decide +kernel
theorem dX12_isDusty_97 : decode cX12_isDusty 97 = .ok (.aload_n 0, 1) := by decide +kernel
theorem dX12_isDusty_98 : decode cX12_isDusty 98 = .ok (.getfield 88, 3) := by decide +kernel
theorem dX12_isDusty_101 : decode cX12_isDusty 101 = .ok (.iload 4, 2) := by decide +kernel
theorem dX12_isDusty_103 : decode cX12_isDusty 103 = .ok (.iconst 2, 1) := by decide +kernel
theorem dX12_isDusty_104 : decode cX12_isDusty 104 = .ok (.iadd, 1) := by decide +kernel
theorem dX12_isDusty_105 : decode cX12_isDusty 105 = .ok (.iaload, 1) := by decide +kernel
theorem dX12_isDusty_106 : decode cX12_isDusty 106 = .ok (.imul, 1) := by decide +kernel
theorem dX12_isDusty_107 : decode cX12_isDusty 107 = .ok (.istore 10, 2) := by decide +kernel
theorem dX12_isDusty_109 : decode cX12_isDusty 109 = .ok (.iload 9, 2) := by decide +kernel
theorem dX12_isDusty_111 : decode cX12_isDusty 111 = .ok (.ifCond .le 42, 3) := by decide +kernel
theorem dX12_isDusty_114 : decode cX12_isDusty 114 = .ok (.iload 5, 2) := by decide +kernel
theorem dX12_isDusty_116 : decode cX12_isDusty 116 = .ok (.iload 8, 2) := by decide +kernel
theorem dX12_isDusty_118 : decode cX12_isDusty 118 = .ok (.imul, 1) := by decide +kernel
theorem dX12_isDusty_119 : decode cX12_isDusty 119 = .ok (.iload 6, 2) := by decide +kernel
theorem dX12_isDusty_121 : decode cX12_isDusty 121 = .ok (.iload 7, 2) := by decide +kernel
theorem dX12_isDusty_123 : decode cX12_isDusty 123 = .ok (.imul, 1) := by decide +kernel
theorem dX12_isDusty_124 : decode cX12_isDusty 124 = .ok (.isub, 1) := by decide +kernel
theorem dX12_isDusty_125 : decode cX12_isDusty 125 = .ok (.invokestatic 272, 3) := by decide +kernel
theorem dX12_isDusty_128 : decode cX12_isDusty 128 = .ok (.iload 9, 2) := by decide +kernel
theorem dX12_isDusty_130 : decode cX12_isDusty 130 = .ok (.if_icmp .gt 23, 3) := by decide +kernel
theorem dX12_isDusty_133 : decode cX12_isDusty 133 = .ok (.aload_n 0, 1) := by decide +kernel
theorem dX12_isDusty_134 : decode cX12_isDusty 134 = .ok (.iload 5, 2) := by decide +kernel
theorem dX12_isDusty_136 : decode cX12_isDusty 136 = .ok (.iload 6, 2) := by decide +kernel
theorem dX12_isDusty_138 : decode cX12_isDusty 138 = .ok (.invokevirtual 230, 3) := by decide +kernel
theorem dX12_isDusty_141 : decode cX12_isDusty 141 = .ok (.iload 10, 2) := by decide +kernel
theorem dX12_isDusty_143 : decode cX12_isDusty 143 = .ok (.iload 10, 2) := by decide +kernel
theorem dX12_isDusty_145 : decode cX12_isDusty 145 = .ok (.imul, 1) := by decide +kernel
theorem dX12_isDusty_146 : decode cX12_isDusty 146 = .ok (.if_icmp .gt 7, 3) := by decide +kernel
theorem dX12_isDusty_149 : decode cX12_isDusty 149 = .ok (.iconst 1, 1) := by decide +kernel
theorem dX12_isDusty_150 : decode cX12_isDusty 150 = .ok (.goto 4, 3) := by decide +kernel
theorem dX12_isDusty_153 : decode cX12_isDusty 153 = .ok (.iconst 0, 1) := by decide +kernel
theorem dX12_isDusty_154 : decode cX12_isDusty 154 = .ok (.ireturn, 1) := by decide +kernel
def f_X12_isDusty (N : Nat) (R : Nat → Nat → Nat) (σ : SI) (x0 : Nat) (x1 : Int32) (x2 : Int32) (x3 : Int32) : Option (Int32 × SI) := ck ((9 : Int32) + ((3 : Int32) * x3)) 417 (if (σ (R x0 11) ((9 : Int32) + ((3 : Int32) * x3)).toNatClampNeg) = 0 then (some ((0 : Int32), σ)) else (bd (f_X12_ofNear N R σ x0 x2 (6 : Int32)) (fun a4 σ4 => bd (f_X12_ofBlast N R σ4 x0 x1 (6 : Int32)) (fun a5 σ5 => bd (f_X12_ofNear N R σ5 x0 x2 (7 : Int32)) (fun a6 σ6 => bd (f_X12_ofBlast N R σ6 x0 x1 (7 : Int32)) (fun a7 σ7 => ck (((9 : Int32) + ((3 : Int32) * x3)) + (1 : Int32)) 417 (bd (f_X12_stepX N R σ7 (σ7 (R x0 11) (((9 : Int32) + ((3 : Int32) * x3)) + (1 : Int32)).toNatClampNeg)) (fun a10 σ10 => ck (((9 : Int32) + ((3 : Int32) * x3)) + (1 : Int32)) 417 (bd (f_X12_stepY N R σ10 (σ10 (R x0 11) (((9 : Int32) + ((3 : Int32) * x3)) + (1 : Int32)).toNatClampNeg)) (fun a13 σ13 => ck (((9 : Int32) + ((3 : Int32) * x3)) + (2 : Int32)) 417 (if (((a4 - a5) * a10) + ((a6 - a7) * a13)) ≤ 0 then (some ((0 : Int32), σ13)) else (if (((a4 - a5) * a10) + ((a6 - a7) * a13)) < (if 0 ≤ (((a4 - a5) * a13) - ((a6 - a7) * a10)) then (((a4 - a5) * a13) - ((a6 - a7) * a10)) else 0 - (((a4 - a5) * a13) - ((a6 - a7) * a10))) then (some ((0 : Int32), σ13)) else (bd (f_X12_squared N R σ13 x0 (a4 - a5) (a6 - a7)) (fun a18 σ18 => if (((50 : Int32) * (σ13 (R x0 11) (((9 : Int32) + ((3 : Int32) * x3)) + (2 : Int32)).toNatClampNeg)) * ((50 : Int32) * (σ13 (R x0 11) (((9 : Int32) + ((3 : Int32) * x3)) + (2 : Int32)).toNatClampNeg))) < a18 then (some ((0 : Int32), σ18)) else (some ((1 : Int32), σ18))))))))))))))))
set_option maxHeartbeats 4000000 in
set_option maxRecDepth 100000 in
theorem ok_X12_isDusty {l : Launch} {g : GL} {R : Nat → Nat → Nat} {L : Nat → Nat → Int64} {N : Nat} {σ : SI} {x0 : Nat} {x1 : Int32} {x2 : Int32} {x3 : Int32} {r : (Int32 × SI)} (h : f_X12_isDusty N R σ x0 x1 x2 x3 = some r) (hSh : ShR R) (hx0 : Ok 194 x0 12) : Ct l g 2 yX12_isDusty cX12_isDusty 11 (some .boolean) 194 194 0 0 [.ref (gb g + x0), .int x1, .int x2, .int x3] (mkS σ R L) (PI R L r) := by
  refine Met.ofW (cc := cX12_isDusty) (maxL := 11) (ret := (some .boolean)) (by decide) rfl ?_
  intro p e s m args below meth c s₁ B hml hv
  obtain ⟨rfl, hE, hLo, hWd⟩ := hv
  have hr : meth.sig.returnType = (some .boolean) := B.returns
  have C : Cx l g p s m meth c cX12_isDusty 11 RX12 := ⟨B.exec, B.bytes, hml, findClass_of_methodNamed B.named, hE, hLo, B.notSynchronized⟩
  have S : S2 g s σ R L s.heap [] := ⟨hWd, va_S.rf⟩
  have hx := C.1
  have hb := C.2.1
  have hl := lv_entry ([.ref (gb g + x0), .int x1, .int x2, .int x3]) (n := 11) (Nat.le_of_ble_eq_true rfl)
  rw [lg_entry_eq]
  generalize (lg_sl ([.ref (gb g + x0), .int x1, .int x2, .int x3]) ++ List.replicate (11 - (lg_sl ([.ref (gb g + x0), .int x1, .int x2, .int x3])).length) Slot.unset).toArray = ls at hl ⊢
  have hl : lv_has ls 11 [(0, .ref (gb g + x0)), (1, .int x1), (2, .int x2), (3, .int x3)] := hl
  generalize hH : s.heap = H at S ⊢
  generalize hlc : ([] : List Loc) = locs at S ⊢
  rw [f_X12_isDusty] at h
  refine lv_bipush (v := (9 : Int32)) hx hb dX12_isDusty_0 (by decide) ?_
  refine lv_iconst (v := (3 : Int32)) hx hb dX12_isDusty_2 (by decide) ?_
  refine lv_iload_n hx hb dX12_isDusty_3 rfl (lv_at hl 3 rfl) ?_
  refine lv_imul hx hb dX12_isDusty_4 ?_
  refine lv_iadd hx hb dX12_isDusty_5 ?_
  refine lv_istore (lv' := [(4, .int ((9 : Int32) + ((3 : Int32) * x3))), (0, .ref (gb g + x0)), (1, .int x1), (2, .int x2), (3, .int x3)]) hx hb dX12_isDusty_6 hl (by decide) rfl (fun ls hl => ?_)
  refine lv_aload_n hx hb dX12_isDusty_8 rfl (lv_at hl 1 rfl) ?_
  have hR1 : Ok 194 (R x0 11) 10417 := hSh x0 12 11 10417 hx0.1 rfl
  refine x_getR C S KX12 hx0 11 (by decide) rfl rfl fl_RX12_88 hR1 dX12_isDusty_9 ?_
  refine lv_iload hx hb dX12_isDusty_12 (lv_at hl 0 rfl) ?_
  obtain ⟨hi2, h⟩ := ck_el h
  refine x_iald (len := 417) C S (by decide) hR1 hi2 dX12_isDusty_14 ?_
  refine lv_if_ne (tgt := 20) hx hb dX12_isDusty_15 (by decide) (fun c3 => ?_) (fun c3 => ?_)
  · have h := it_n c3 h
    refine lv_aload_n hx hb dX12_isDusty_20 rfl (lv_at hl 1 rfl) ?_
    refine lv_iload_n hx hb dX12_isDusty_21 rfl (lv_at hl 3 rfl) ?_
    refine lv_bipush (v := (6 : Int32)) hx hb dX12_isDusty_22 (by decide) ?_
    obtain ⟨a4, σ4, hc4, h⟩ := bd_el h
    refine x_callVI C S KX12 hx0 (ok_X12_ofNear (L := L) hc4 hSh hx0) ⟨cd_X12_ofNear, ni_RX12, ml_RX12_227, in_X12_ofNear, sl_X12_ofNear⟩ ⟨by decide, by decide⟩ rfl ⟨by decide, by decide⟩ hl.1 rfl (Nat.le_of_ble_eq_true rfl) ⟨by decide, by decide⟩ dX12_isDusty_24 (fun H locs S => ?_)
    refine lv_aload_n hx hb dX12_isDusty_27 rfl (lv_at hl 1 rfl) ?_
    refine lv_iload_n hx hb dX12_isDusty_28 rfl (lv_at hl 2 rfl) ?_
    refine lv_bipush (v := (6 : Int32)) hx hb dX12_isDusty_29 (by decide) ?_
    obtain ⟨a5, σ5, hc5, h⟩ := bd_el h
    refine x_callVI C S KX12 hx0 (ok_X12_ofBlast (L := L) hc5 hSh hx0) ⟨cd_X12_ofBlast, ni_RX12, ml_RX12_192, in_X12_ofBlast, sl_X12_ofBlast⟩ ⟨by decide, by decide⟩ rfl ⟨by decide, by decide⟩ hl.1 rfl (Nat.le_of_ble_eq_true rfl) ⟨by decide, by decide⟩ dX12_isDusty_31 (fun H locs S => ?_)
    refine lv_isub hx hb dX12_isDusty_34 ?_
    refine lv_istore (lv' := [(5, .int (a4 - a5)), (4, .int ((9 : Int32) + ((3 : Int32) * x3))), (0, .ref (gb g + x0)), (1, .int x1), (2, .int x2), (3, .int x3)]) hx hb dX12_isDusty_35 hl (by decide) rfl (fun ls hl => ?_)
    refine lv_aload_n hx hb dX12_isDusty_37 rfl (lv_at hl 2 rfl) ?_
    refine lv_iload_n hx hb dX12_isDusty_38 rfl (lv_at hl 4 rfl) ?_
    refine lv_bipush (v := (7 : Int32)) hx hb dX12_isDusty_39 (by decide) ?_
    obtain ⟨a6, σ6, hc6, h⟩ := bd_el h
    refine x_callVI C S KX12 hx0 (ok_X12_ofNear (L := L) hc6 hSh hx0) ⟨cd_X12_ofNear, ni_RX12, ml_RX12_227, in_X12_ofNear, sl_X12_ofNear⟩ ⟨by decide, by decide⟩ rfl ⟨by decide, by decide⟩ hl.1 rfl (Nat.le_of_ble_eq_true rfl) ⟨by decide, by decide⟩ dX12_isDusty_41 (fun H locs S => ?_)
    refine lv_aload_n hx hb dX12_isDusty_44 rfl (lv_at hl 2 rfl) ?_
    refine lv_iload_n hx hb dX12_isDusty_45 rfl (lv_at hl 3 rfl) ?_
    refine lv_bipush (v := (7 : Int32)) hx hb dX12_isDusty_46 (by decide) ?_
    obtain ⟨a7, σ7, hc7, h⟩ := bd_el h
    refine x_callVI C S KX12 hx0 (ok_X12_ofBlast (L := L) hc7 hSh hx0) ⟨cd_X12_ofBlast, ni_RX12, ml_RX12_192, in_X12_ofBlast, sl_X12_ofBlast⟩ ⟨by decide, by decide⟩ rfl ⟨by decide, by decide⟩ hl.1 rfl (Nat.le_of_ble_eq_true rfl) ⟨by decide, by decide⟩ dX12_isDusty_48 (fun H locs S => ?_)
    refine lv_isub hx hb dX12_isDusty_51 ?_
    refine lv_istore (lv' := [(6, .int (a6 - a7)), (5, .int (a4 - a5)), (4, .int ((9 : Int32) + ((3 : Int32) * x3))), (0, .ref (gb g + x0)), (1, .int x1), (2, .int x2), (3, .int x3)]) hx hb dX12_isDusty_52 hl (by decide) rfl (fun ls hl => ?_)
    refine lv_aload_n hx hb dX12_isDusty_54 rfl (lv_at hl 3 rfl) ?_
    have hR8 : Ok 194 (R x0 11) 10417 := hSh x0 12 11 10417 hx0.1 rfl
    refine x_getR C S KX12 hx0 11 (by decide) rfl rfl fl_RX12_88 hR8 dX12_isDusty_55 ?_
    refine lv_iload hx hb dX12_isDusty_58 (lv_at hl 2 rfl) ?_
    refine lv_iconst (v := (1 : Int32)) hx hb dX12_isDusty_60 (by decide) ?_
    refine lv_iadd hx hb dX12_isDusty_61 ?_
    obtain ⟨hi9, h⟩ := ck_el h
    refine x_iald (len := 417) C S (by decide) hR8 hi9 dX12_isDusty_62 ?_
    obtain ⟨a10, σ10, hc10, h⟩ := bd_el h
    refine x_callSI C S (ok_X12_stepX (L := L) hc10 hSh) ⟨cd_X12_stepX, ni_RX12, ml_RX12_266, st_X12_stepX⟩ ⟨by decide, by decide⟩ rfl ⟨by decide, by decide⟩ hl.1 rfl (Nat.le_of_ble_eq_true rfl) ⟨by decide, by decide⟩ dX12_isDusty_63 (fun H locs S => ?_)
    refine lv_istore (lv' := [(7, .int a10), (6, .int (a6 - a7)), (5, .int (a4 - a5)), (4, .int ((9 : Int32) + ((3 : Int32) * x3))), (0, .ref (gb g + x0)), (1, .int x1), (2, .int x2), (3, .int x3)]) hx hb dX12_isDusty_66 hl (by decide) rfl (fun ls hl => ?_)
    refine lv_aload_n hx hb dX12_isDusty_68 rfl (lv_at hl 4 rfl) ?_
    have hR11 : Ok 194 (R x0 11) 10417 := hSh x0 12 11 10417 hx0.1 rfl
    refine x_getR C S KX12 hx0 11 (by decide) rfl rfl fl_RX12_88 hR11 dX12_isDusty_69 ?_
    refine lv_iload hx hb dX12_isDusty_72 (lv_at hl 3 rfl) ?_
    refine lv_iconst (v := (1 : Int32)) hx hb dX12_isDusty_74 (by decide) ?_
    refine lv_iadd hx hb dX12_isDusty_75 ?_
    obtain ⟨hi12, h⟩ := ck_el h
    refine x_iald (len := 417) C S (by decide) hR11 hi12 dX12_isDusty_76 ?_
    obtain ⟨a13, σ13, hc13, h⟩ := bd_el h
    refine x_callSI C S (ok_X12_stepY (L := L) hc13 hSh) ⟨cd_X12_stepY, ni_RX12, ml_RX12_269, st_X12_stepY⟩ ⟨by decide, by decide⟩ rfl ⟨by decide, by decide⟩ hl.1 rfl (Nat.le_of_ble_eq_true rfl) ⟨by decide, by decide⟩ dX12_isDusty_77 (fun H locs S => ?_)
    refine lv_istore (lv' := [(8, .int a13), (7, .int a10), (6, .int (a6 - a7)), (5, .int (a4 - a5)), (4, .int ((9 : Int32) + ((3 : Int32) * x3))), (0, .ref (gb g + x0)), (1, .int x1), (2, .int x2), (3, .int x3)]) hx hb dX12_isDusty_80 hl (by decide) rfl (fun ls hl => ?_)
    refine lv_iload hx hb dX12_isDusty_82 (lv_at hl 3 rfl) ?_
    refine lv_iload hx hb dX12_isDusty_84 (lv_at hl 1 rfl) ?_
    refine lv_imul hx hb dX12_isDusty_86 ?_
    refine lv_iload hx hb dX12_isDusty_87 (lv_at hl 2 rfl) ?_
    refine lv_iload hx hb dX12_isDusty_89 (lv_at hl 0 rfl) ?_
    refine lv_imul hx hb dX12_isDusty_91 ?_
    refine lv_iadd hx hb dX12_isDusty_92 ?_
    refine lv_istore (lv' := [(9, .int (((a4 - a5) * a10) + ((a6 - a7) * a13))), (8, .int a13), (7, .int a10), (6, .int (a6 - a7)), (5, .int (a4 - a5)), (4, .int ((9 : Int32) + ((3 : Int32) * x3))), (0, .ref (gb g + x0)), (1, .int x1), (2, .int x2), (3, .int x3)]) hx hb dX12_isDusty_93 hl (by decide) rfl (fun ls hl => ?_)
    refine lv_bipush (v := (50 : Int32)) hx hb dX12_isDusty_95 (by decide) ?_
    refine lv_aload_n hx hb dX12_isDusty_97 rfl (lv_at hl 6 rfl) ?_
    have hR14 : Ok 194 (R x0 11) 10417 := hSh x0 12 11 10417 hx0.1 rfl
    refine x_getR C S KX12 hx0 11 (by decide) rfl rfl fl_RX12_88 hR14 dX12_isDusty_98 ?_
    refine lv_iload hx hb dX12_isDusty_101 (lv_at hl 5 rfl) ?_
    refine lv_iconst (v := (2 : Int32)) hx hb dX12_isDusty_103 (by decide) ?_
    refine lv_iadd hx hb dX12_isDusty_104 ?_
    obtain ⟨hi15, h⟩ := ck_el h
    refine x_iald (len := 417) C S (by decide) hR14 hi15 dX12_isDusty_105 ?_
    refine lv_imul hx hb dX12_isDusty_106 ?_
    refine lv_istore (lv' := [(10, .int ((50 : Int32) * (σ13 (R x0 11) (((9 : Int32) + ((3 : Int32) * x3)) + (2 : Int32)).toNatClampNeg))), (9, .int (((a4 - a5) * a10) + ((a6 - a7) * a13))), (8, .int a13), (7, .int a10), (6, .int (a6 - a7)), (5, .int (a4 - a5)), (4, .int ((9 : Int32) + ((3 : Int32) * x3))), (0, .ref (gb g + x0)), (1, .int x1), (2, .int x2), (3, .int x3)]) hx hb dX12_isDusty_107 hl (by decide) rfl (fun ls hl => ?_)
    refine lv_iload hx hb dX12_isDusty_109 (lv_at hl 1 rfl) ?_
    refine lv_if_le (tgt := 153) hx hb dX12_isDusty_111 (by decide) (fun c16 => ?_) (fun c16 => ?_)
    · have h := it_p c16 h
      refine lv_iconst (v := (0 : Int32)) hx hb dX12_isDusty_153 (by decide) ?_
      exact x_zret C S hr (by decide) h dX12_isDusty_154
    · have h := it_n c16 h
      refine lv_iload hx hb dX12_isDusty_114 (lv_at hl 5 rfl) ?_
      refine lv_iload hx hb dX12_isDusty_116 (lv_at hl 2 rfl) ?_
      refine lv_imul hx hb dX12_isDusty_118 ?_
      refine lv_iload hx hb dX12_isDusty_119 (lv_at hl 4 rfl) ?_
      refine lv_iload hx hb dX12_isDusty_121 (lv_at hl 3 rfl) ?_
      refine lv_imul hx hb dX12_isDusty_123 ?_
      refine lv_isub hx hb dX12_isDusty_124 ?_
      refine x_abs C hl.1 ⟨ml_RX12_272, st_math_abs, ni_math, cd_math_abs⟩ (Nat.le_of_ble_eq_true rfl) (Nat.le_of_ble_eq_true rfl) (Nat.le_of_ble_eq_true rfl) (Nat.le_of_ble_eq_true rfl) dX12_isDusty_125 ?_
      refine lv_iload hx hb dX12_isDusty_128 (lv_at hl 1 rfl) ?_
      refine lv_icmp_gt (tgt := 153) hx hb dX12_isDusty_130 (by decide) (fun c17 => ?_) (fun c17 => ?_)
      · have h := it_p c17 h
        refine lv_iconst (v := (0 : Int32)) hx hb dX12_isDusty_153 (by decide) ?_
        exact x_zret C S hr (by decide) h dX12_isDusty_154
      · have h := it_n c17 h
        refine lv_aload_n hx hb dX12_isDusty_133 rfl (lv_at hl 7 rfl) ?_
        refine lv_iload hx hb dX12_isDusty_134 (lv_at hl 5 rfl) ?_
        refine lv_iload hx hb dX12_isDusty_136 (lv_at hl 4 rfl) ?_
        obtain ⟨a18, σ18, hc18, h⟩ := bd_el h
        refine x_callVI C S KX12 hx0 (ok_X12_squared (L := L) hc18 hSh hx0) ⟨cd_X12_squared, ni_RX12, ml_RX12_230, in_X12_squared, sl_X12_squared⟩ ⟨by decide, by decide⟩ rfl ⟨by decide, by decide⟩ hl.1 rfl (Nat.le_of_ble_eq_true rfl) ⟨by decide, by decide⟩ dX12_isDusty_138 (fun H locs S => ?_)
        refine lv_iload hx hb dX12_isDusty_141 (lv_at hl 0 rfl) ?_
        refine lv_iload hx hb dX12_isDusty_143 (lv_at hl 0 rfl) ?_
        refine lv_imul hx hb dX12_isDusty_145 ?_
        refine lv_icmp_gt (tgt := 153) hx hb dX12_isDusty_146 (by decide) (fun c19 => ?_) (fun c19 => ?_)
        · have h := it_p c19 h
          refine lv_iconst (v := (0 : Int32)) hx hb dX12_isDusty_153 (by decide) ?_
          exact x_zret C S hr (by decide) h dX12_isDusty_154
        · have h := it_n c19 h
          refine lv_iconst (v := (1 : Int32)) hx hb dX12_isDusty_149 (by decide) ?_
          refine lv_goto (tgt := 154) hx hb dX12_isDusty_150 (by decide) ?_
          exact x_zret C S hr (by decide) h dX12_isDusty_154
  · have h := it_p c3 h
    refine lv_iconst (v := (0 : Int32)) hx hb dX12_isDusty_18 (by decide) ?_
    exact x_zret C S hr (by decide) h dX12_isDusty_19
theorem dX12_dusty_0 : decode cX12_dusty 0 = .ok (.iconst 0, 1) := by decide +kernel
theorem dX12_dusty_1 : decode cX12_dusty 1 = .ok (.istore_n 3, 1) := by decide +kernel
theorem dX12_dusty_2 : decode cX12_dusty 2 = .ok (.iconst 0, 1) := by decide +kernel
theorem dX12_dusty_3 : decode cX12_dusty 3 = .ok (.istore 4, 2) := by decide +kernel
theorem dX12_dusty_5 : decode cX12_dusty 5 = .ok (.iload 4, 2) := by decide +kernel
theorem dX12_dusty_7 : decode cX12_dusty 7 = .ok (.aload_n 0, 1) := by decide +kernel
theorem dX12_dusty_8 : decode cX12_dusty 8 = .ok (.getfield 88, 3) := by decide +kernel
theorem dX12_dusty_11 : decode cX12_dusty 11 = .ok (.iconst 0, 1) := by decide +kernel
theorem dX12_dusty_12 : decode cX12_dusty 12 = .ok (.iaload, 1) := by decide +kernel
theorem dX12_dusty_13 : decode cX12_dusty 13 = .ok (.if_icmp .ge 31, 3) := by decide +kernel
theorem dX12_dusty_16 : decode cX12_dusty 16 = .ok (.iload_n 3, 1) := by decide +kernel
theorem dX12_dusty_17 : decode cX12_dusty 17 = .ok (.aload_n 0, 1) := by decide +kernel
theorem dX12_dusty_18 : decode cX12_dusty 18 = .ok (.iload_n 1, 1) := by decide +kernel
theorem dX12_dusty_19 : decode cX12_dusty 19 = .ok (.iload 4, 2) := by decide +kernel
theorem dX12_dusty_21 : decode cX12_dusty 21 = .ok (.iload_n 2, 1) := by decide +kernel
theorem dX12_dusty_22 : decode cX12_dusty 22 = .ok (.invokevirtual 275, 3) := by decide +kernel
theorem dX12_dusty_25 : decode cX12_dusty 25 = .ok (.ifCond .eq 10, 3) := by decide +kernel
theorem dX12_dusty_28 : decode cX12_dusty 28 = .ok (.iconst 1, 1) := by decide +kernel
theorem dX12_dusty_29 : decode cX12_dusty 29 = .ok (.iload 4, 2) := by decide +kernel
theorem dX12_dusty_31 : decode cX12_dusty 31 = .ok (.ishl, 1) := by decide +kernel
theorem dX12_dusty_32 : decode cX12_dusty 32 = .ok (.goto 4, 3) := by decide +kernel
theorem dX12_dusty_35 : decode cX12_dusty 35 = .ok (.iconst 0, 1) := by decide +kernel
theorem dX12_dusty_36 : decode cX12_dusty 36 = .ok (.ior, 1) := by decide +kernel
theorem dX12_dusty_37 : decode cX12_dusty 37 = .ok (.istore_n 3, 1) := by decide +kernel
theorem dX12_dusty_38 : decode cX12_dusty 38 = .ok (.iinc 4 1, 3) := by decide +kernel
theorem dX12_dusty_41 : decode cX12_dusty 41 = .ok (.goto (-36), 3) := by decide +kernel
theorem dX12_dusty_44 : decode cX12_dusty 44 = .ok (.iload_n 3, 1) := by decide +kernel
theorem dX12_dusty_45 : decode cX12_dusty 45 = .ok (.ireturn, 1) := by decide +kernel
def f_X12_dusty_5 (N : Nat) (R : Nat → Nat → Nat) : Nat → SI → Nat → Int32 → Int32 → Int32 → Int32 → Option (Int32 × SI)
  | 0, _, _, _, _, _, _ => none
  | n + 1, σ, x0, x1, x2, x3, x4 => ck (0 : Int32) 417 (if (σ (R x0 11) (0 : Int32).toNatClampNeg) ≤ x4 then (some (x3, σ)) else (bd (f_X12_isDusty N R σ x0 x1 x4 x2) (fun a4 σ4 => if a4 = 0 then (f_X12_dusty_5 N R n σ4 x0 x1 x2 (x3 ||| (0 : Int32)) (x4 + 1)) else (f_X12_dusty_5 N R n σ4 x0 x1 x2 (x3 ||| ((1 : Int32) <<< (x4 &&& 31))) (x4 + 1)))))
def f_X12_dusty (N : Nat) (R : Nat → Nat → Nat) (σ : SI) (x0 : Nat) (x1 : Int32) (x2 : Int32) : Option (Int32 × SI) := f_X12_dusty_5 N R N σ x0 x1 x2 (0 : Int32) (0 : Int32)
set_option maxHeartbeats 4000000 in
set_option maxRecDepth 100000 in
theorem w_X12_dusty_5 {l : Launch} {g : GL} {p : Program} {e : Jvm.Env} {s : State} {m : MethodId} {args : Array Value} {below : List Frame} {meth : Method} {c : Code} {R : Nat → Nat → Nat} {L : Nat → Nat → Int64} {r : (Int32 × SI)} {N : Nat} (C : Cx l g p s m meth c cX12_dusty 5 RX12) (hr : meth.sig.returnType = (some .int)) (hSh : ShR R) : ∀ (n : Nat) (σ : SI) (x0 : Nat) (x1 : Int32) (x2 : Int32) (x3 : Int32) (x4 : Int32), f_X12_dusty_5 N R n σ x0 x1 x2 x3 x4 = some r → Ok 194 x0 12 → ∀ (H : Heap) (locs : List Loc) (ls : Array Slot), S2 g s σ R L H locs → lv_has ls 5 [(0, .ref (gb g + x0)), (1, .int x1), (2, .int x2), (3, .int x3), (4, .int x4)] → W p l e (rmd 3 0 0) s m args below meth c H locs 0 0 (MQ below (Qg g 194 (PI R L r)) args s 0 0 (gA g)) (F0 m 5 ls []) := by
  have hx := C.1
  have hb := C.2.1
  intro n
  induction n with
  | zero =>
    intro σ x0 x1 x2 x3 x4 h
    cases (show (none : Option (Int32 × SI)) = some r from h)
  | succ n ih =>
    intro σ x0 x1 x2 x3 x4 h hx0 H locs ls S hl
    rw [f_X12_dusty_5] at h
    refine lv_iload hx hb dX12_dusty_5 (lv_at hl 4 rfl) ?_
    refine lv_aload_n hx hb dX12_dusty_7 rfl (lv_at hl 0 rfl) ?_
    have hR1 : Ok 194 (R x0 11) 10417 := hSh x0 12 11 10417 hx0.1 rfl
    refine x_getR C S KX12 hx0 11 (by decide) rfl rfl fl_RX12_88 hR1 dX12_dusty_8 ?_
    refine lv_iconst (v := (0 : Int32)) hx hb dX12_dusty_11 (by decide) ?_
    obtain ⟨hi2, h⟩ := ck_el h
    refine x_iald (len := 417) C S (by decide) hR1 hi2 dX12_dusty_12 ?_
    refine lv_icmp_ge (tgt := 44) hx hb dX12_dusty_13 (by decide) (fun c3 => ?_) (fun c3 => ?_)
    · have h := it_p c3 h
      refine lv_iload_n hx hb dX12_dusty_44 rfl (lv_at hl 3 rfl) ?_
      exact x_iret C S hr h dX12_dusty_45
    · have h := it_n c3 h
      refine lv_iload_n hx hb dX12_dusty_16 rfl (lv_at hl 3 rfl) ?_
      refine lv_aload_n hx hb dX12_dusty_17 rfl (lv_at hl 0 rfl) ?_
      refine lv_iload_n hx hb dX12_dusty_18 rfl (lv_at hl 1 rfl) ?_
      refine lv_iload hx hb dX12_dusty_19 (lv_at hl 4 rfl) ?_
      refine lv_iload_n hx hb dX12_dusty_21 rfl (lv_at hl 2 rfl) ?_
      obtain ⟨a4, σ4, hc4, h⟩ := bd_el h
      refine x_callVI C S KX12 hx0 (ok_X12_isDusty (L := L) hc4 hSh hx0) ⟨cd_X12_isDusty, ni_RX12, ml_RX12_275, in_X12_isDusty, sl_X12_isDusty⟩ ⟨by decide, by decide⟩ rfl ⟨by decide, by decide⟩ hl.1 rfl (Nat.le_of_ble_eq_true rfl) ⟨by decide, by decide⟩ dX12_dusty_22 (fun H locs S => ?_)
      refine lv_if_eq (tgt := 35) hx hb dX12_dusty_25 (by decide) (fun c5 => ?_) (fun c5 => ?_)
      · have h := it_p c5 h
        refine lv_iconst (v := (0 : Int32)) hx hb dX12_dusty_35 (by decide) ?_
        refine lv_ior hx hb dX12_dusty_36 ?_
        refine lv_istore_n (lv' := [(3, .int (x3 ||| (0 : Int32))), (0, .ref (gb g + x0)), (1, .int x1), (2, .int x2), (4, .int x4)]) hx hb dX12_dusty_37 rfl hl (by decide) rfl (fun ls hl => ?_)
        refine lv_iinc (v := x4 + 1) (lv' := [(4, .int (x4 + 1)), (3, .int (x3 ||| (0 : Int32))), (0, .ref (gb g + x0)), (1, .int x1), (2, .int x2)]) hx hb dX12_dusty_38 hl (k := 4) rfl rfl (by decide) rfl (fun ls hl => ?_)
        refine lv_goto (tgt := 5) hx hb dX12_dusty_41 (by decide) ?_
        exact ih σ4 x0 x1 x2 (x3 ||| (0 : Int32)) (x4 + 1) h hx0 H locs ls S (lv_sub hl [2, 3, 4, 1, 0] rfl)
      · have h := it_n c5 h
        refine lv_iconst (v := (1 : Int32)) hx hb dX12_dusty_28 (by decide) ?_
        refine lv_iload hx hb dX12_dusty_29 (lv_at hl 4 rfl) ?_
        refine lv_ishl hx hb dX12_dusty_31 ?_
        refine lv_goto (tgt := 36) hx hb dX12_dusty_32 (by decide) ?_
        refine lv_ior hx hb dX12_dusty_36 ?_
        refine lv_istore_n (lv' := [(3, .int (x3 ||| ((1 : Int32) <<< (x4 &&& 31)))), (0, .ref (gb g + x0)), (1, .int x1), (2, .int x2), (4, .int x4)]) hx hb dX12_dusty_37 rfl hl (by decide) rfl (fun ls hl => ?_)
        refine lv_iinc (v := x4 + 1) (lv' := [(4, .int (x4 + 1)), (3, .int (x3 ||| ((1 : Int32) <<< (x4 &&& 31)))), (0, .ref (gb g + x0)), (1, .int x1), (2, .int x2)]) hx hb dX12_dusty_38 hl (k := 4) rfl rfl (by decide) rfl (fun ls hl => ?_)
        refine lv_goto (tgt := 5) hx hb dX12_dusty_41 (by decide) ?_
        exact ih σ4 x0 x1 x2 (x3 ||| ((1 : Int32) <<< (x4 &&& 31))) (x4 + 1) h hx0 H locs ls S (lv_sub hl [2, 3, 4, 1, 0] rfl)
set_option maxHeartbeats 4000000 in
set_option maxRecDepth 100000 in
theorem ok_X12_dusty {l : Launch} {g : GL} {R : Nat → Nat → Nat} {L : Nat → Nat → Int64} {N : Nat} {σ : SI} {x0 : Nat} {x1 : Int32} {x2 : Int32} {r : (Int32 × SI)} (h : f_X12_dusty N R σ x0 x1 x2 = some r) (hSh : ShR R) (hx0 : Ok 194 x0 12) : Ct l g 3 yX12_dusty cX12_dusty 5 (some .int) 194 194 0 0 [.ref (gb g + x0), .int x1, .int x2] (mkS σ R L) (PI R L r) := by
  refine Met.ofW (cc := cX12_dusty) (maxL := 5) (ret := (some .int)) (by decide) rfl ?_
  intro p e s m args below meth c s₁ B hml hv
  obtain ⟨rfl, hE, hLo, hWd⟩ := hv
  have hr : meth.sig.returnType = (some .int) := B.returns
  have C : Cx l g p s m meth c cX12_dusty 5 RX12 := ⟨B.exec, B.bytes, hml, findClass_of_methodNamed B.named, hE, hLo, B.notSynchronized⟩
  have S : S2 g s σ R L s.heap [] := ⟨hWd, va_S.rf⟩
  have hx := C.1
  have hb := C.2.1
  have hl := lv_entry ([.ref (gb g + x0), .int x1, .int x2]) (n := 5) (Nat.le_of_ble_eq_true rfl)
  rw [lg_entry_eq]
  generalize (lg_sl ([.ref (gb g + x0), .int x1, .int x2]) ++ List.replicate (5 - (lg_sl ([.ref (gb g + x0), .int x1, .int x2])).length) Slot.unset).toArray = ls at hl ⊢
  have hl : lv_has ls 5 [(0, .ref (gb g + x0)), (1, .int x1), (2, .int x2)] := hl
  generalize hH : s.heap = H at S ⊢
  generalize hlc : ([] : List Loc) = locs at S ⊢
  rw [f_X12_dusty] at h
  refine lv_iconst (v := (0 : Int32)) hx hb dX12_dusty_0 (by decide) ?_
  refine lv_istore_n (lv' := [(3, .int (0 : Int32)), (0, .ref (gb g + x0)), (1, .int x1), (2, .int x2)]) hx hb dX12_dusty_1 rfl hl (by decide) rfl (fun ls hl => ?_)
  refine lv_iconst (v := (0 : Int32)) hx hb dX12_dusty_2 (by decide) ?_
  refine lv_istore (lv' := [(4, .int (0 : Int32)), (3, .int (0 : Int32)), (0, .ref (gb g + x0)), (1, .int x1), (2, .int x2)]) hx hb dX12_dusty_3 hl (by decide) rfl (fun ls hl => ?_)
  exact w_X12_dusty_5 C hr hSh N σ x0 x1 x2 (0 : Int32) (0 : Int32) h hx0 H locs ls S (lv_sub hl [2, 3, 4, 1, 0] rfl)
theorem dX12_dustAt_0 : decode cX12_dustAt 0 = .ok (.aload_n 0, 1) := by decide +kernel
theorem dX12_dustAt_1 : decode cX12_dustAt 1 = .ok (.iconst 0, 1) := by decide +kernel
theorem dX12_dustAt_2 : decode cX12_dustAt 2 = .ok (.putfield 3, 3) := by decide +kernel
theorem dX12_dustAt_5 : decode cX12_dustAt 5 = .ok (.aload_n 0, 1) := by decide +kernel
theorem dX12_dustAt_6 : decode cX12_dustAt 6 = .ok (.iload_n 1, 1) := by decide +kernel
theorem dX12_dustAt_7 : decode cX12_dustAt 7 = .ok (.invokevirtual 198, 3) := by decide +kernel
theorem dX12_dustAt_10 : decode cX12_dustAt 10 = .ok (.ifCond .ne 26, 3) := by decide +kernel
theorem dX12_dustAt_13 : decode cX12_dustAt 13 = .ok (.aload_n 0, 1) := by decide +kernel
theorem dX12_dustAt_14 : decode cX12_dustAt 14 = .ok (.iload_n 2, 1) := by decide +kernel
theorem dX12_dustAt_15 : decode cX12_dustAt 15 = .ok (.iconst 0, 1) := by decide +kernel
theorem dX12_dustAt_16 : decode cX12_dustAt 16 = .ok (.bipush 23, 2) := by decide +kernel
theorem dX12_dustAt_18 : decode cX12_dustAt 18 = .ok (.invokestatic 71, 3) := by decide +kernel
theorem dX12_dustAt_21 : decode cX12_dustAt 21 = .ok (.ifCond .ne 7, 3) := by decide +kernel
theorem dX12_dustAt_24 : decode cX12_dustAt 24 = .ok (.iconst 1, 1) := by decide +kernel
theorem dX12_dustAt_25 : decode cX12_dustAt 25 = .ok (.goto 4, 3) := by decide +kernel
theorem dX12_dustAt_28 : decode cX12_dustAt 28 = .ok (.iconst 0, 1) := by decide +kernel
theorem dX12_dustAt_29 : decode cX12_dustAt 29 = .ok (.iconst 2, 1) := by decide +kernel
theorem dX12_dustAt_30 : decode cX12_dustAt 30 = .ok (.invokevirtual 185, 3) := by decide +kernel
theorem dX12_dustAt_33 : decode cX12_dustAt 33 = .ok (.ifCond .eq 7, 3) := by decide +kernel
theorem dX12_dustAt_36 : decode cX12_dustAt 36 = .ok (.iconst 0, 1) := by decide +kernel
theorem dX12_dustAt_37 : decode cX12_dustAt 37 = .ok (.goto 9, 3) := by decide +kernel
theorem dX12_dustAt_40 : decode cX12_dustAt 40 = .ok (.aload_n 0, 1) := by decide +kernel
theorem dX12_dustAt_41 : decode cX12_dustAt 41 = .ok (.iload_n 1, 1) := by decide +kernel
theorem dX12_dustAt_42 : decode cX12_dustAt 42 = .ok (.iload_n 2, 1) := by decide +kernel
theorem dX12_dustAt_43 : decode cX12_dustAt 43 = .ok (.invokevirtual 278, 3) := by decide +kernel
theorem dX12_dustAt_46 : decode cX12_dustAt 46 = .ok (.ireturn, 1) := by decide +kernel
def f_X12_dustAt_36 (N : Nat) (R : Nat → Nat → Nat) (σ : SI) : Option (Int32 × SI) := some ((0 : Int32), σ)
def f_X12_dustAt (N : Nat) (R : Nat → Nat → Nat) (σ : SI) (x0 : Nat) (x1 : Int32) (x2 : Int32) : Option (Int32 × SI) := sq (up σ x0 0 (0 : Int32)) (fun σ1 => bd (f_X12_noBlast N R σ1 x0 x1) (fun a2 σ2 => if a2 = 0 then (bd (f_X12_in N R σ2 x2 (0 : Int32) (23 : Int32)) (fun a4 σ4 => if a4 = 0 then (bd (f_X12_throwsIf N R σ4 x0 (1 : Int32) (2 : Int32)) (fun a9 σ9 => if a9 = 0 then (bd (f_X12_dusty N R σ9 x0 x1 x2) (fun a11 σ11 => some (a11, σ11))) else (f_X12_dustAt_36 N R σ9))) else (bd (f_X12_throwsIf N R σ4 x0 (0 : Int32) (2 : Int32)) (fun a6 σ6 => if a6 = 0 then (bd (f_X12_dusty N R σ6 x0 x1 x2) (fun a8 σ8 => some (a8, σ8))) else (f_X12_dustAt_36 N R σ6))))) else (f_X12_dustAt_36 N R σ2)))
set_option maxHeartbeats 4000000 in
set_option maxRecDepth 100000 in
theorem w_X12_dustAt_36 {l : Launch} {g : GL} {p : Program} {e : Jvm.Env} {s : State} {m : MethodId} {args : Array Value} {below : List Frame} {meth : Method} {c : Code} {R : Nat → Nat → Nat} {L : Nat → Nat → Int64} {r : (Int32 × SI)} {N : Nat} (C : Cx l g p s m meth c cX12_dustAt 3 RX12) (hr : meth.sig.returnType = (some .int)) (hSh : ShR R) : ∀ (σ : SI), f_X12_dustAt_36 N R σ = some r → ∀ (H : Heap) (locs : List Loc) (ls : Array Slot), S2 g s σ R L H locs → lv_has ls 3 [] → W p l e (rmd 4 0 0) s m args below meth c H locs 0 0 (MQ below (Qg g 194 (PI R L r)) args s 0 0 (gA g)) (F0 m 36 ls []) := by
  have hx := C.1
  have hb := C.2.1
  intro σ h H locs ls S hl
  rw [f_X12_dustAt_36] at h
  refine lv_iconst (v := (0 : Int32)) hx hb dX12_dustAt_36 (by decide) ?_
  refine lv_goto (tgt := 46) hx hb dX12_dustAt_37 (by decide) ?_
  exact x_iret C S hr h dX12_dustAt_46
set_option maxHeartbeats 4000000 in
set_option maxRecDepth 100000 in
theorem ok_X12_dustAt {l : Launch} {g : GL} {R : Nat → Nat → Nat} {L : Nat → Nat → Int64} {N : Nat} {σ : SI} {x0 : Nat} {x1 : Int32} {x2 : Int32} {r : (Int32 × SI)} (h : f_X12_dustAt N R σ x0 x1 x2 = some r) (hSh : ShR R) (hx0 : Ok 194 x0 12) : Ct l g 4 yX12_dustAt cX12_dustAt 3 (some .int) 194 194 0 0 [.ref (gb g + x0), .int x1, .int x2] (mkS σ R L) (PI R L r) := by
  refine Met.ofW (cc := cX12_dustAt) (maxL := 3) (ret := (some .int)) (by decide) rfl ?_
  intro p e s m args below meth c s₁ B hml hv
  obtain ⟨rfl, hE, hLo, hWd⟩ := hv
  have hr : meth.sig.returnType = (some .int) := B.returns
  have C : Cx l g p s m meth c cX12_dustAt 3 RX12 := ⟨B.exec, B.bytes, hml, findClass_of_methodNamed B.named, hE, hLo, B.notSynchronized⟩
  have S : S2 g s σ R L s.heap [] := ⟨hWd, va_S.rf⟩
  have hx := C.1
  have hb := C.2.1
  have hl := lv_entry ([.ref (gb g + x0), .int x1, .int x2]) (n := 3) (Nat.le_of_ble_eq_true rfl)
  rw [lg_entry_eq]
  generalize (lg_sl ([.ref (gb g + x0), .int x1, .int x2]) ++ List.replicate (3 - (lg_sl ([.ref (gb g + x0), .int x1, .int x2])).length) Slot.unset).toArray = ls at hl ⊢
  have hl : lv_has ls 3 [(0, .ref (gb g + x0)), (1, .int x1), (2, .int x2)] := hl
  generalize hH : s.heap = H at S ⊢
  generalize hlc : ([] : List Loc) = locs at S ⊢
  rw [f_X12_dustAt] at h
  refine lv_aload_n hx hb dX12_dustAt_0 rfl (lv_at hl 0 rfl) ?_
  refine lv_iconst (v := (0 : Int32)) hx hb dX12_dustAt_1 (by decide) ?_
  obtain ⟨σ1, hs1, h⟩ := sq_el h
  refine x_putI C S KX12 hx0 0 (by decide) rfl rfl rfl ⟨rfl, rfl⟩ fl_RX12_3 dX12_dustAt_2 hs1 (fun H locs S => ?_)
  refine lv_aload_n hx hb dX12_dustAt_5 rfl (lv_at hl 0 rfl) ?_
  refine lv_iload_n hx hb dX12_dustAt_6 rfl (lv_at hl 1 rfl) ?_
  obtain ⟨a2, σ2, hc2, h⟩ := bd_el h
  refine x_callVI C S KX12 hx0 (ok_X12_noBlast (L := L) hc2 hSh hx0) ⟨cd_X12_noBlast, ni_RX12, ml_RX12_198, in_X12_noBlast, sl_X12_noBlast⟩ ⟨by decide, by decide⟩ rfl ⟨by decide, by decide⟩ hl.1 rfl (Nat.le_of_ble_eq_true rfl) ⟨by decide, by decide⟩ dX12_dustAt_7 (fun H locs S => ?_)
  refine lv_if_ne (tgt := 36) hx hb dX12_dustAt_10 (by decide) (fun c3 => ?_) (fun c3 => ?_)
  · have h := it_n c3 h
    exact w_X12_dustAt_36 C hr hSh σ2 h H locs ls S (lv_sub hl [] rfl)
  · have h := it_p c3 h
    refine lv_aload_n hx hb dX12_dustAt_13 rfl (lv_at hl 0 rfl) ?_
    refine lv_iload_n hx hb dX12_dustAt_14 rfl (lv_at hl 2 rfl) ?_
    refine lv_iconst (v := (0 : Int32)) hx hb dX12_dustAt_15 (by decide) ?_
    refine lv_bipush (v := (23 : Int32)) hx hb dX12_dustAt_16 (by decide) ?_
    obtain ⟨a4, σ4, hc4, h⟩ := bd_el h
    refine x_callSI C S (ok_X12_in (L := L) hc4 hSh) ⟨cd_X12_in, ni_RX12, ml_RX12_71, st_X12_in⟩ ⟨by decide, by decide⟩ rfl ⟨by decide, by decide⟩ hl.1 rfl (Nat.le_of_ble_eq_true rfl) ⟨by decide, by decide⟩ dX12_dustAt_18 (fun H locs S => ?_)
    refine lv_if_ne (tgt := 28) hx hb dX12_dustAt_21 (by decide) (fun c5 => ?_) (fun c5 => ?_)
    · have h := it_n c5 h
      refine lv_iconst (v := (0 : Int32)) hx hb dX12_dustAt_28 (by decide) ?_
      refine lv_iconst (v := (2 : Int32)) hx hb dX12_dustAt_29 (by decide) ?_
      obtain ⟨a6, σ6, hc6, h⟩ := bd_el h
      refine x_callVI C S KX12 hx0 (ok_X12_throwsIf (L := L) hc6 hSh hx0) ⟨cd_X12_throwsIf, ni_RX12, ml_RX12_185, in_X12_throwsIf, sl_X12_throwsIf⟩ ⟨by decide, by decide⟩ rfl ⟨by decide, by decide⟩ hl.1 rfl (Nat.le_of_ble_eq_true rfl) ⟨by decide, by decide⟩ dX12_dustAt_30 (fun H locs S => ?_)
      refine lv_if_eq (tgt := 40) hx hb dX12_dustAt_33 (by decide) (fun c7 => ?_) (fun c7 => ?_)
      · have h := it_p c7 h
        refine lv_aload_n hx hb dX12_dustAt_40 rfl (lv_at hl 0 rfl) ?_
        refine lv_iload_n hx hb dX12_dustAt_41 rfl (lv_at hl 1 rfl) ?_
        refine lv_iload_n hx hb dX12_dustAt_42 rfl (lv_at hl 2 rfl) ?_
        obtain ⟨a8, σ8, hc8, h⟩ := bd_el h
        refine x_callVI C S KX12 hx0 (ok_X12_dusty (L := L) hc8 hSh hx0) ⟨cd_X12_dusty, ni_RX12, ml_RX12_278, in_X12_dusty, sl_X12_dusty⟩ ⟨by decide, by decide⟩ rfl ⟨by decide, by decide⟩ hl.1 rfl (Nat.le_of_ble_eq_true rfl) ⟨by decide, by decide⟩ dX12_dustAt_43 (fun H locs S => ?_)
        exact x_iret C S hr h dX12_dustAt_46
      · have h := it_n c7 h
        exact w_X12_dustAt_36 C hr hSh σ6 h H locs ls S (lv_sub hl [] rfl)
    · have h := it_p c5 h
      refine lv_iconst (v := (1 : Int32)) hx hb dX12_dustAt_24 (by decide) ?_
      refine lv_goto (tgt := 29) hx hb dX12_dustAt_25 (by decide) ?_
      refine lv_iconst (v := (2 : Int32)) hx hb dX12_dustAt_29 (by decide) ?_
      obtain ⟨a9, σ9, hc9, h⟩ := bd_el h
      refine x_callVI C S KX12 hx0 (ok_X12_throwsIf (L := L) hc9 hSh hx0) ⟨cd_X12_throwsIf, ni_RX12, ml_RX12_185, in_X12_throwsIf, sl_X12_throwsIf⟩ ⟨by decide, by decide⟩ rfl ⟨by decide, by decide⟩ hl.1 rfl (Nat.le_of_ble_eq_true rfl) ⟨by decide, by decide⟩ dX12_dustAt_30 (fun H locs S => ?_)
      refine lv_if_eq (tgt := 40) hx hb dX12_dustAt_33 (by decide) (fun c10 => ?_) (fun c10 => ?_)
      · have h := it_p c10 h
        refine lv_aload_n hx hb dX12_dustAt_40 rfl (lv_at hl 0 rfl) ?_
        refine lv_iload_n hx hb dX12_dustAt_41 rfl (lv_at hl 1 rfl) ?_
        refine lv_iload_n hx hb dX12_dustAt_42 rfl (lv_at hl 2 rfl) ?_
        obtain ⟨a11, σ11, hc11, h⟩ := bd_el h
        refine x_callVI C S KX12 hx0 (ok_X12_dusty (L := L) hc11 hSh hx0) ⟨cd_X12_dusty, ni_RX12, ml_RX12_278, in_X12_dusty, sl_X12_dusty⟩ ⟨by decide, by decide⟩ rfl ⟨by decide, by decide⟩ hl.1 rfl (Nat.le_of_ble_eq_true rfl) ⟨by decide, by decide⟩ dX12_dustAt_43 (fun H locs S => ?_)
        exact x_iret C S hr h dX12_dustAt_46
      · have h := it_n c10 h
        exact w_X12_dustAt_36 C hr hSh σ9 h H locs ls S (lv_sub hl [] rfl)
theorem dX12_dustHours_0 : decode cX12_dustHours 0 = .ok (.aload_n 0, 1) := by decide +kernel
theorem dX12_dustHours_1 : decode cX12_dustHours 1 = .ok (.iconst 0, 1) := by decide +kernel
theorem dX12_dustHours_2 : decode cX12_dustHours 2 = .ok (.putfield 3, 3) := by decide +kernel
theorem dX12_dustHours_5 : decode cX12_dustHours 5 = .ok (.aload_n 0, 1) := by decide +kernel
theorem dX12_dustHours_6 : decode cX12_dustHours 6 = .ok (.iload_n 1, 1) := by decide +kernel
theorem dX12_dustHours_7 : decode cX12_dustHours 7 = .ok (.invokevirtual 198, 3) := by decide +kernel
theorem dX12_dustHours_10 : decode cX12_dustHours 10 = .ok (.ifCond .eq 5, 3) := by decide +kernel
theorem dX12_dustHours_13 : decode cX12_dustHours 13 = .ok (.iconst 0, 1) := by decide +kernel
theorem dX12_dustHours_14 : decode cX12_dustHours 14 = .ok (.ireturn, 1) := by decide +kernel
theorem dX12_dustHours_15 : decode cX12_dustHours 15 = .ok (.iconst 0, 1) := by decide +kernel
theorem dX12_dustHours_16 : decode cX12_dustHours 16 = .ok (.istore_n 2, 1) := by decide +kernel
theorem dX12_dustHours_17 : decode cX12_dustHours 17 = .ok (.iconst 0, 1) := by decide +kernel
theorem dX12_dustHours_18 : decode cX12_dustHours 18 = .ok (.istore_n 3, 1) := by decide +kernel
theorem dX12_dustHours_19 : decode cX12_dustHours 19 = .ok (.iload_n 3, 1) := by decide +kernel
theorem dX12_dustHours_20 : decode cX12_dustHours 20 = .ok (.bipush 24, 2) := by decide +kernel
theorem dX12_dustHours_22 : decode cX12_dustHours 22 = .ok (.if_icmp .ge 28, 3) := by decide +kernel
theorem dX12_dustHours_25 : decode cX12_dustHours 25 = .ok (.iload_n 2, 1) := by decide +kernel
theorem dX12_dustHours_26 : decode cX12_dustHours 26 = .ok (.aload_n 0, 1) := by decide +kernel
theorem dX12_dustHours_27 : decode cX12_dustHours 27 = .ok (.iload_n 1, 1) := by decide +kernel
theorem dX12_dustHours_28 : decode cX12_dustHours 28 = .ok (.iload_n 3, 1) := by decide +kernel
theorem dX12_dustHours_29 : decode cX12_dustHours 29 = .ok (.invokevirtual 278, 3) := by decide +kernel
theorem dX12_dustHours_32 : decode cX12_dustHours 32 = .ok (.ifCond .eq 9, 3) := by decide +kernel
theorem dX12_dustHours_35 : decode cX12_dustHours 35 = .ok (.iconst 1, 1) := by decide +kernel
theorem dX12_dustHours_36 : decode cX12_dustHours 36 = .ok (.iload_n 3, 1) := by decide +kernel
theorem dX12_dustHours_37 : decode cX12_dustHours 37 = .ok (.ishl, 1) := by decide +kernel
theorem dX12_dustHours_38 : decode cX12_dustHours 38 = .ok (.goto 4, 3) := by decide +kernel
theorem dX12_dustHours_41 : decode cX12_dustHours 41 = .ok (.iconst 0, 1) := by decide +kernel
theorem dX12_dustHours_42 : decode cX12_dustHours 42 = .ok (.ior, 1) := by decide +kernel
theorem dX12_dustHours_43 : decode cX12_dustHours 43 = .ok (.istore_n 2, 1) := by decide +kernel
theorem dX12_dustHours_44 : decode cX12_dustHours 44 = .ok (.iinc 3 1, 3) := by decide +kernel
theorem dX12_dustHours_47 : decode cX12_dustHours 47 = .ok (.goto (-28), 3) := by decide +kernel
theorem dX12_dustHours_50 : decode cX12_dustHours 50 = .ok (.iload_n 2, 1) := by decide +kernel
theorem dX12_dustHours_51 : decode cX12_dustHours 51 = .ok (.ireturn, 1) := by decide +kernel
def f_X12_dustHours_19 (N : Nat) (R : Nat → Nat → Nat) : Nat → SI → Nat → Int32 → Int32 → Int32 → Option (Int32 × SI)
  | 0, _, _, _, _, _ => none
  | n + 1, σ, x0, x1, x2, x3 => if (24 : Int32) ≤ x3 then (some (x2, σ)) else (bd (f_X12_dusty N R σ x0 x1 x3) (fun a5 σ5 => if a5 = 0 then (f_X12_dustHours_19 N R n σ5 x0 x1 (x2 ||| (0 : Int32)) (x3 + 1)) else (f_X12_dustHours_19 N R n σ5 x0 x1 (x2 ||| ((1 : Int32) <<< (x3 &&& 31))) (x3 + 1))))
def f_X12_dustHours (N : Nat) (R : Nat → Nat → Nat) (σ : SI) (x0 : Nat) (x1 : Int32) : Option (Int32 × SI) := sq (up σ x0 0 (0 : Int32)) (fun σ1 => bd (f_X12_noBlast N R σ1 x0 x1) (fun a2 σ2 => if a2 = 0 then (f_X12_dustHours_19 N R N σ2 x0 x1 (0 : Int32) (0 : Int32)) else (some ((0 : Int32), σ2))))
set_option maxHeartbeats 4000000 in
set_option maxRecDepth 100000 in
theorem w_X12_dustHours_19 {l : Launch} {g : GL} {p : Program} {e : Jvm.Env} {s : State} {m : MethodId} {args : Array Value} {below : List Frame} {meth : Method} {c : Code} {R : Nat → Nat → Nat} {L : Nat → Nat → Int64} {r : (Int32 × SI)} {N : Nat} (C : Cx l g p s m meth c cX12_dustHours 4 RX12) (hr : meth.sig.returnType = (some .int)) (hSh : ShR R) : ∀ (n : Nat) (σ : SI) (x0 : Nat) (x1 : Int32) (x2 : Int32) (x3 : Int32), f_X12_dustHours_19 N R n σ x0 x1 x2 x3 = some r → Ok 194 x0 12 → ∀ (H : Heap) (locs : List Loc) (ls : Array Slot), S2 g s σ R L H locs → lv_has ls 4 [(0, .ref (gb g + x0)), (1, .int x1), (2, .int x2), (3, .int x3)] → W p l e (rmd 4 0 0) s m args below meth c H locs 0 0 (MQ below (Qg g 194 (PI R L r)) args s 0 0 (gA g)) (F0 m 19 ls []) := by
  have hx := C.1
  have hb := C.2.1
  intro n
  induction n with
  | zero =>
    intro σ x0 x1 x2 x3 h
    cases (show (none : Option (Int32 × SI)) = some r from h)
  | succ n ih =>
    intro σ x0 x1 x2 x3 h hx0 H locs ls S hl
    rw [f_X12_dustHours_19] at h
    refine lv_iload_n hx hb dX12_dustHours_19 rfl (lv_at hl 3 rfl) ?_
    refine lv_bipush (v := (24 : Int32)) hx hb dX12_dustHours_20 (by decide) ?_
    refine lv_icmp_ge (tgt := 50) hx hb dX12_dustHours_22 (by decide) (fun c4 => ?_) (fun c4 => ?_)
    · have h := it_p c4 h
      refine lv_iload_n hx hb dX12_dustHours_50 rfl (lv_at hl 2 rfl) ?_
      exact x_iret C S hr h dX12_dustHours_51
    · have h := it_n c4 h
      refine lv_iload_n hx hb dX12_dustHours_25 rfl (lv_at hl 2 rfl) ?_
      refine lv_aload_n hx hb dX12_dustHours_26 rfl (lv_at hl 0 rfl) ?_
      refine lv_iload_n hx hb dX12_dustHours_27 rfl (lv_at hl 1 rfl) ?_
      refine lv_iload_n hx hb dX12_dustHours_28 rfl (lv_at hl 3 rfl) ?_
      obtain ⟨a5, σ5, hc5, h⟩ := bd_el h
      refine x_callVI C S KX12 hx0 (ok_X12_dusty (L := L) hc5 hSh hx0) ⟨cd_X12_dusty, ni_RX12, ml_RX12_278, in_X12_dusty, sl_X12_dusty⟩ ⟨by decide, by decide⟩ rfl ⟨by decide, by decide⟩ hl.1 rfl (Nat.le_of_ble_eq_true rfl) ⟨by decide, by decide⟩ dX12_dustHours_29 (fun H locs S => ?_)
      refine lv_if_eq (tgt := 41) hx hb dX12_dustHours_32 (by decide) (fun c6 => ?_) (fun c6 => ?_)
      · have h := it_p c6 h
        refine lv_iconst (v := (0 : Int32)) hx hb dX12_dustHours_41 (by decide) ?_
        refine lv_ior hx hb dX12_dustHours_42 ?_
        refine lv_istore_n (lv' := [(2, .int (x2 ||| (0 : Int32))), (0, .ref (gb g + x0)), (1, .int x1), (3, .int x3)]) hx hb dX12_dustHours_43 rfl hl (by decide) rfl (fun ls hl => ?_)
        refine lv_iinc (v := x3 + 1) (lv' := [(3, .int (x3 + 1)), (2, .int (x2 ||| (0 : Int32))), (0, .ref (gb g + x0)), (1, .int x1)]) hx hb dX12_dustHours_44 hl (k := 3) rfl rfl (by decide) rfl (fun ls hl => ?_)
        refine lv_goto (tgt := 19) hx hb dX12_dustHours_47 (by decide) ?_
        exact ih σ5 x0 x1 (x2 ||| (0 : Int32)) (x3 + 1) h hx0 H locs ls S (lv_sub hl [2, 3, 1, 0] rfl)
      · have h := it_n c6 h
        refine lv_iconst (v := (1 : Int32)) hx hb dX12_dustHours_35 (by decide) ?_
        refine lv_iload_n hx hb dX12_dustHours_36 rfl (lv_at hl 3 rfl) ?_
        refine lv_ishl hx hb dX12_dustHours_37 ?_
        refine lv_goto (tgt := 42) hx hb dX12_dustHours_38 (by decide) ?_
        refine lv_ior hx hb dX12_dustHours_42 ?_
        refine lv_istore_n (lv' := [(2, .int (x2 ||| ((1 : Int32) <<< (x3 &&& 31)))), (0, .ref (gb g + x0)), (1, .int x1), (3, .int x3)]) hx hb dX12_dustHours_43 rfl hl (by decide) rfl (fun ls hl => ?_)
        refine lv_iinc (v := x3 + 1) (lv' := [(3, .int (x3 + 1)), (2, .int (x2 ||| ((1 : Int32) <<< (x3 &&& 31)))), (0, .ref (gb g + x0)), (1, .int x1)]) hx hb dX12_dustHours_44 hl (k := 3) rfl rfl (by decide) rfl (fun ls hl => ?_)
        refine lv_goto (tgt := 19) hx hb dX12_dustHours_47 (by decide) ?_
        exact ih σ5 x0 x1 (x2 ||| ((1 : Int32) <<< (x3 &&& 31))) (x3 + 1) h hx0 H locs ls S (lv_sub hl [2, 3, 1, 0] rfl)
set_option maxHeartbeats 4000000 in
set_option maxRecDepth 100000 in
theorem ok_X12_dustHours {l : Launch} {g : GL} {R : Nat → Nat → Nat} {L : Nat → Nat → Int64} {N : Nat} {σ : SI} {x0 : Nat} {x1 : Int32} {r : (Int32 × SI)} (h : f_X12_dustHours N R σ x0 x1 = some r) (hSh : ShR R) (hx0 : Ok 194 x0 12) : Ct l g 4 yX12_dustHours cX12_dustHours 4 (some .int) 194 194 0 0 [.ref (gb g + x0), .int x1] (mkS σ R L) (PI R L r) := by
  refine Met.ofW (cc := cX12_dustHours) (maxL := 4) (ret := (some .int)) (by decide) rfl ?_
  intro p e s m args below meth c s₁ B hml hv
  obtain ⟨rfl, hE, hLo, hWd⟩ := hv
  have hr : meth.sig.returnType = (some .int) := B.returns
  have C : Cx l g p s m meth c cX12_dustHours 4 RX12 := ⟨B.exec, B.bytes, hml, findClass_of_methodNamed B.named, hE, hLo, B.notSynchronized⟩
  have S : S2 g s σ R L s.heap [] := ⟨hWd, va_S.rf⟩
  have hx := C.1
  have hb := C.2.1
  have hl := lv_entry ([.ref (gb g + x0), .int x1]) (n := 4) (Nat.le_of_ble_eq_true rfl)
  rw [lg_entry_eq]
  generalize (lg_sl ([.ref (gb g + x0), .int x1]) ++ List.replicate (4 - (lg_sl ([.ref (gb g + x0), .int x1])).length) Slot.unset).toArray = ls at hl ⊢
  have hl : lv_has ls 4 [(0, .ref (gb g + x0)), (1, .int x1)] := hl
  generalize hH : s.heap = H at S ⊢
  generalize hlc : ([] : List Loc) = locs at S ⊢
  rw [f_X12_dustHours] at h
  refine lv_aload_n hx hb dX12_dustHours_0 rfl (lv_at hl 0 rfl) ?_
  refine lv_iconst (v := (0 : Int32)) hx hb dX12_dustHours_1 (by decide) ?_
  obtain ⟨σ1, hs1, h⟩ := sq_el h
  refine x_putI C S KX12 hx0 0 (by decide) rfl rfl rfl ⟨rfl, rfl⟩ fl_RX12_3 dX12_dustHours_2 hs1 (fun H locs S => ?_)
  refine lv_aload_n hx hb dX12_dustHours_5 rfl (lv_at hl 0 rfl) ?_
  refine lv_iload_n hx hb dX12_dustHours_6 rfl (lv_at hl 1 rfl) ?_
  obtain ⟨a2, σ2, hc2, h⟩ := bd_el h
  refine x_callVI C S KX12 hx0 (ok_X12_noBlast (L := L) hc2 hSh hx0) ⟨cd_X12_noBlast, ni_RX12, ml_RX12_198, in_X12_noBlast, sl_X12_noBlast⟩ ⟨by decide, by decide⟩ rfl ⟨by decide, by decide⟩ hl.1 rfl (Nat.le_of_ble_eq_true rfl) ⟨by decide, by decide⟩ dX12_dustHours_7 (fun H locs S => ?_)
  refine lv_if_eq (tgt := 15) hx hb dX12_dustHours_10 (by decide) (fun c3 => ?_) (fun c3 => ?_)
  · have h := it_p c3 h
    refine lv_iconst (v := (0 : Int32)) hx hb dX12_dustHours_15 (by decide) ?_
    refine lv_istore_n (lv' := [(2, .int (0 : Int32)), (0, .ref (gb g + x0)), (1, .int x1)]) hx hb dX12_dustHours_16 rfl hl (by decide) rfl (fun ls hl => ?_)
    refine lv_iconst (v := (0 : Int32)) hx hb dX12_dustHours_17 (by decide) ?_
    refine lv_istore_n (lv' := [(3, .int (0 : Int32)), (2, .int (0 : Int32)), (0, .ref (gb g + x0)), (1, .int x1)]) hx hb dX12_dustHours_18 rfl hl (by decide) rfl (fun ls hl => ?_)
    exact w_X12_dustHours_19 C hr hSh N σ2 x0 x1 (0 : Int32) (0 : Int32) h hx0 H locs ls S (lv_sub hl [2, 3, 1, 0] rfl)
  · have h := it_n c3 h
    refine lv_iconst (v := (0 : Int32)) hx hb dX12_dustHours_13 (by decide) ?_
    exact x_iret C S hr h dX12_dustHours_14
theorem dX12_shakesSome_0 : decode cX12_shakesSome 0 = .ok (.iconst 0, 1) := by decide +kernel
theorem dX12_shakesSome_1 : decode cX12_shakesSome 1 = .ok (.istore_n 2, 1) := by decide +kernel
theorem dX12_shakesSome_2 : decode cX12_shakesSome 2 = .ok (.iload_n 2, 1) := by decide +kernel
theorem dX12_shakesSome_3 : decode cX12_shakesSome 3 = .ok (.aload_n 0, 1) := by decide +kernel
theorem dX12_shakesSome_4 : decode cX12_shakesSome 4 = .ok (.getfield 88, 3) := by decide +kernel
theorem dX12_shakesSome_7 : decode cX12_shakesSome 7 = .ok (.iconst 0, 1) := by decide +kernel
theorem dX12_shakesSome_8 : decode cX12_shakesSome 8 = .ok (.iaload, 1) := by decide +kernel
theorem dX12_shakesSome_9 : decode cX12_shakesSome 9 = .ok (.if_icmp .ge 20, 3) := by decide +kernel
theorem dX12_shakesSome_12 : decode cX12_shakesSome 12 = .ok (.aload_n 0, 1) := by decide +kernel
theorem dX12_shakesSome_13 : decode cX12_shakesSome 13 = .ok (.iload_n 1, 1) := by decide +kernel
theorem dX12_shakesSome_14 : decode cX12_shakesSome 14 = .ok (.iload_n 2, 1) := by decide +kernel
theorem dX12_shakesSome_15 : decode cX12_shakesSome 15 = .ok (.invokevirtual 245, 3) := by decide +kernel
theorem dX12_shakesSome_18 : decode cX12_shakesSome 18 = .ok (.ifCond .eq 5, 3) := by decide +kernel
theorem dX12_shakesSome_21 : decode cX12_shakesSome 21 = .ok (.iconst 1, 1) := by decide +kernel
theorem dX12_shakesSome_22 : decode cX12_shakesSome 22 = .ok (.ireturn, 1) := by decide +kernel
theorem dX12_shakesSome_23 : decode cX12_shakesSome 23 = .ok (.iinc 2 1, 3) := by decide +kernel
theorem dX12_shakesSome_26 : decode cX12_shakesSome 26 = .ok (.goto (-24), 3) := by decide +kernel
theorem dX12_shakesSome_29 : decode cX12_shakesSome 29 = .ok (.iconst 0, 1) := by decide +kernel
theorem dX12_shakesSome_30 : decode cX12_shakesSome 30 = .ok (.ireturn, 1) := by decide +kernel
def f_X12_shakesSome_2 (N : Nat) (R : Nat → Nat → Nat) : Nat → SI → Nat → Int32 → Int32 → Option (Int32 × SI)
  | 0, _, _, _, _ => none
  | n + 1, σ, x0, x1, x2 => ck (0 : Int32) 417 (if (σ (R x0 11) (0 : Int32).toNatClampNeg) ≤ x2 then (some ((0 : Int32), σ)) else (bd (f_X12_isTooStrong N R σ x0 x1 x2) (fun a4 σ4 => if a4 = 0 then (f_X12_shakesSome_2 N R n σ4 x0 x1 (x2 + 1)) else (some ((1 : Int32), σ4)))))
def f_X12_shakesSome (N : Nat) (R : Nat → Nat → Nat) (σ : SI) (x0 : Nat) (x1 : Int32) : Option (Int32 × SI) := f_X12_shakesSome_2 N R N σ x0 x1 (0 : Int32)
set_option maxHeartbeats 4000000 in
set_option maxRecDepth 100000 in
theorem w_X12_shakesSome_2 {l : Launch} {g : GL} {p : Program} {e : Jvm.Env} {s : State} {m : MethodId} {args : Array Value} {below : List Frame} {meth : Method} {c : Code} {R : Nat → Nat → Nat} {L : Nat → Nat → Int64} {r : (Int32 × SI)} {N : Nat} (C : Cx l g p s m meth c cX12_shakesSome 3 RX12) (hr : meth.sig.returnType = (some .boolean)) (hSh : ShR R) : ∀ (n : Nat) (σ : SI) (x0 : Nat) (x1 : Int32) (x2 : Int32), f_X12_shakesSome_2 N R n σ x0 x1 x2 = some r → Ok 194 x0 12 → ∀ (H : Heap) (locs : List Loc) (ls : Array Slot), S2 g s σ R L H locs → lv_has ls 3 [(0, .ref (gb g + x0)), (1, .int x1), (2, .int x2)] → W p l e (rmd 7 0 0) s m args below meth c H locs 0 0 (MQ below (Qg g 194 (PI R L r)) args s 0 0 (gA g)) (F0 m 2 ls []) := by
  have hx := C.1
  have hb := C.2.1
  intro n
  induction n with
  | zero =>
    intro σ x0 x1 x2 h
    cases (show (none : Option (Int32 × SI)) = some r from h)
  | succ n ih =>
    intro σ x0 x1 x2 h hx0 H locs ls S hl
    rw [f_X12_shakesSome_2] at h
    refine lv_iload_n hx hb dX12_shakesSome_2 rfl (lv_at hl 2 rfl) ?_
    refine lv_aload_n hx hb dX12_shakesSome_3 rfl (lv_at hl 0 rfl) ?_
    have hR1 : Ok 194 (R x0 11) 10417 := hSh x0 12 11 10417 hx0.1 rfl
    refine x_getR C S KX12 hx0 11 (by decide) rfl rfl fl_RX12_88 hR1 dX12_shakesSome_4 ?_
    refine lv_iconst (v := (0 : Int32)) hx hb dX12_shakesSome_7 (by decide) ?_
    obtain ⟨hi2, h⟩ := ck_el h
    refine x_iald (len := 417) C S (by decide) hR1 hi2 dX12_shakesSome_8 ?_
    refine lv_icmp_ge (tgt := 29) hx hb dX12_shakesSome_9 (by decide) (fun c3 => ?_) (fun c3 => ?_)
    · have h := it_p c3 h
      refine lv_iconst (v := (0 : Int32)) hx hb dX12_shakesSome_29 (by decide) ?_
      exact x_zret C S hr (by decide) h dX12_shakesSome_30
    · have h := it_n c3 h
      refine lv_aload_n hx hb dX12_shakesSome_12 rfl (lv_at hl 0 rfl) ?_
      refine lv_iload_n hx hb dX12_shakesSome_13 rfl (lv_at hl 1 rfl) ?_
      refine lv_iload_n hx hb dX12_shakesSome_14 rfl (lv_at hl 2 rfl) ?_
      obtain ⟨a4, σ4, hc4, h⟩ := bd_el h
      refine x_callVI C S KX12 hx0 (ok_X12_isTooStrong (L := L) hc4 hSh hx0) ⟨cd_X12_isTooStrong, ni_RX12, ml_RX12_245, in_X12_isTooStrong, sl_X12_isTooStrong⟩ ⟨by decide, by decide⟩ rfl ⟨by decide, by decide⟩ hl.1 rfl (Nat.le_of_ble_eq_true rfl) ⟨by decide, by decide⟩ dX12_shakesSome_15 (fun H locs S => ?_)
      refine lv_if_eq (tgt := 23) hx hb dX12_shakesSome_18 (by decide) (fun c5 => ?_) (fun c5 => ?_)
      · have h := it_p c5 h
        refine lv_iinc (v := x2 + 1) (lv' := [(2, .int (x2 + 1)), (0, .ref (gb g + x0)), (1, .int x1)]) hx hb dX12_shakesSome_23 hl (k := 2) rfl rfl (by decide) rfl (fun ls hl => ?_)
        refine lv_goto (tgt := 2) hx hb dX12_shakesSome_26 (by decide) ?_
        exact ih σ4 x0 x1 (x2 + 1) h hx0 H locs ls S (lv_sub hl [1, 2, 0] rfl)
      · have h := it_n c5 h
        refine lv_iconst (v := (1 : Int32)) hx hb dX12_shakesSome_21 (by decide) ?_
        exact x_zret C S hr (by decide) h dX12_shakesSome_22
set_option maxHeartbeats 4000000 in
set_option maxRecDepth 100000 in
theorem ok_X12_shakesSome {l : Launch} {g : GL} {R : Nat → Nat → Nat} {L : Nat → Nat → Int64} {N : Nat} {σ : SI} {x0 : Nat} {x1 : Int32} {r : (Int32 × SI)} (h : f_X12_shakesSome N R σ x0 x1 = some r) (hSh : ShR R) (hx0 : Ok 194 x0 12) : Ct l g 7 yX12_shakesSome cX12_shakesSome 3 (some .boolean) 194 194 0 0 [.ref (gb g + x0), .int x1] (mkS σ R L) (PI R L r) := by
  refine Met.ofW (cc := cX12_shakesSome) (maxL := 3) (ret := (some .boolean)) (by decide) rfl ?_
  intro p e s m args below meth c s₁ B hml hv
  obtain ⟨rfl, hE, hLo, hWd⟩ := hv
  have hr : meth.sig.returnType = (some .boolean) := B.returns
  have C : Cx l g p s m meth c cX12_shakesSome 3 RX12 := ⟨B.exec, B.bytes, hml, findClass_of_methodNamed B.named, hE, hLo, B.notSynchronized⟩
  have S : S2 g s σ R L s.heap [] := ⟨hWd, va_S.rf⟩
  have hx := C.1
  have hb := C.2.1
  have hl := lv_entry ([.ref (gb g + x0), .int x1]) (n := 3) (Nat.le_of_ble_eq_true rfl)
  rw [lg_entry_eq]
  generalize (lg_sl ([.ref (gb g + x0), .int x1]) ++ List.replicate (3 - (lg_sl ([.ref (gb g + x0), .int x1])).length) Slot.unset).toArray = ls at hl ⊢
  have hl : lv_has ls 3 [(0, .ref (gb g + x0)), (1, .int x1)] := hl
  generalize hH : s.heap = H at S ⊢
  generalize hlc : ([] : List Loc) = locs at S ⊢
  rw [f_X12_shakesSome] at h
  refine lv_iconst (v := (0 : Int32)) hx hb dX12_shakesSome_0 (by decide) ?_
  refine lv_istore_n (lv' := [(2, .int (0 : Int32)), (0, .ref (gb g + x0)), (1, .int x1)]) hx hb dX12_shakesSome_1 rfl hl (by decide) rfl (fun ls hl => ?_)
  exact w_X12_shakesSome_2 C hr hSh N σ x0 x1 (0 : Int32) h hx0 H locs ls S (lv_sub hl [1, 2, 0] rfl)
theorem dX12_disturbs_0 : decode cX12_disturbs 0 = .ok (.iconst 3, 1) := by decide +kernel
theorem dX12_disturbs_1 : decode cX12_disturbs 1 = .ok (.aload_n 0, 1) := by decide +kernel
theorem dX12_disturbs_2 : decode cX12_disturbs 2 = .ok (.iload_n 1, 1) := by decide +kernel
theorem dX12_disturbs_3 : decode cX12_disturbs 3 = .ok (.bipush 8, 2) := by decide +kernel
theorem dX12_disturbs_5 : decode cX12_disturbs 5 = .ok (.invokevirtual 192, 3) := by decide +kernel
theorem dX12_disturbs_8 : decode cX12_disturbs 8 = .ok (.imul, 1) := by decide +kernel
theorem dX12_disturbs_9 : decode cX12_disturbs 9 = .ok (.istore_n 3, 1) := by decide +kernel
theorem dX12_disturbs_10 : decode cX12_disturbs 10 = .ok (.iconst 0, 1) := by decide +kernel
theorem dX12_disturbs_11 : decode cX12_disturbs 11 = .ok (.istore 4, 2) := by decide +kernel
theorem dX12_disturbs_13 : decode cX12_disturbs 13 = .ok (.iload 4, 2) := by decide +kernel
theorem dX12_disturbs_15 : decode cX12_disturbs 15 = .ok (.aload_n 0, 1) := by decide +kernel
theorem dX12_disturbs_16 : decode cX12_disturbs 16 = .ok (.getfield 88, 3) := by decide +kernel
theorem dX12_disturbs_19 : decode cX12_disturbs 19 = .ok (.iconst 0, 1) := by decide +kernel
theorem dX12_disturbs_20 : decode cX12_disturbs 20 = .ok (.iaload, 1) := by decide +kernel
theorem dX12_disturbs_21 : decode cX12_disturbs 21 = .ok (.if_icmp .ge 34, 3) := by decide +kernel
theorem dX12_disturbs_24 : decode cX12_disturbs 24 = .ok (.aload_n 0, 1) := by decide +kernel
theorem dX12_disturbs_25 : decode cX12_disturbs 25 = .ok (.iload 4, 2) := by decide +kernel
theorem dX12_disturbs_27 : decode cX12_disturbs 27 = .ok (.iload_n 2, 1) := by decide +kernel
theorem dX12_disturbs_28 : decode cX12_disturbs 28 = .ok (.invokevirtual 263, 3) := by decide +kernel
theorem dX12_disturbs_31 : decode cX12_disturbs 31 = .ok (.ifCond .eq 18, 3) := by decide +kernel
theorem dX12_disturbs_34 : decode cX12_disturbs 34 = .ok (.aload_n 0, 1) := by decide +kernel
theorem dX12_disturbs_35 : decode cX12_disturbs 35 = .ok (.iload_n 1, 1) := by decide +kernel
theorem dX12_disturbs_36 : decode cX12_disturbs 36 = .ok (.iload 4, 2) := by decide +kernel
theorem dX12_disturbs_38 : decode cX12_disturbs 38 = .ok (.invokevirtual 236, 3) := by decide +kernel
theorem dX12_disturbs_41 : decode cX12_disturbs 41 = .ok (.iload_n 3, 1) := by decide +kernel
theorem dX12_disturbs_42 : decode cX12_disturbs 42 = .ok (.iload_n 3, 1) := by decide +kernel
theorem dX12_disturbs_43 : decode cX12_disturbs 43 = .ok (.imul, 1) := by decide +kernel
theorem dX12_disturbs_44 : decode cX12_disturbs 44 = .ok (.if_icmp .gt 5, 3) := by decide +kernel
theorem dX12_disturbs_47 : decode cX12_disturbs 47 = .ok (.iconst 1, 1) := by decide +kernel
theorem dX12_disturbs_48 : decode cX12_disturbs 48 = .ok (.ireturn, 1) := by decide +kernel
theorem dX12_disturbs_49 : decode cX12_disturbs 49 = .ok (.iinc 4 1, 3) := by decide +kernel
theorem dX12_disturbs_52 : decode cX12_disturbs 52 = .ok (.goto (-39), 3) := by decide +kernel
theorem dX12_disturbs_55 : decode cX12_disturbs 55 = .ok (.iconst 0, 1) := by decide +kernel
theorem dX12_disturbs_56 : decode cX12_disturbs 56 = .ok (.ireturn, 1) := by decide +kernel
def f_X12_disturbs_49 (N : Nat) (R : Nat → Nat → Nat) (k13 : SI → Nat → Int32 → Int32 → Int32 → Int32 → Option (Int32 × SI)) (σ : SI) (x0 : Nat) (x1 : Int32) (x2 : Int32) (x3 : Int32) (x4 : Int32) : Option (Int32 × SI) := k13 σ x0 x1 x2 x3 (x4 + 1)
def f_X12_disturbs_13 (N : Nat) (R : Nat → Nat → Nat) : Nat → SI → Nat → Int32 → Int32 → Int32 → Int32 → Option (Int32 × SI)
  | 0, _, _, _, _, _, _ => none
  | n + 1, σ, x0, x1, x2, x3, x4 => ck (0 : Int32) 417 (if (σ (R x0 11) (0 : Int32).toNatClampNeg) ≤ x4 then (some ((0 : Int32), σ)) else (bd (f_X12_isStill N R σ x0 x4 x2) (fun a5 σ5 => if a5 = 0 then (f_X12_disturbs_49 N R (fun σ x0 x1 x2 x3 x4 => f_X12_disturbs_13 N R n σ x0 x1 x2 x3 x4) σ5 x0 x1 x2 x3 x4) else (bd (f_X12_farAway N R σ5 x0 x1 x4) (fun a7 σ7 => if (x3 * x3) < a7 then (f_X12_disturbs_49 N R (fun σ x0 x1 x2 x3 x4 => f_X12_disturbs_13 N R n σ x0 x1 x2 x3 x4) σ7 x0 x1 x2 x3 x4) else (some ((1 : Int32), σ7)))))))
def f_X12_disturbs (N : Nat) (R : Nat → Nat → Nat) (σ : SI) (x0 : Nat) (x1 : Int32) (x2 : Int32) : Option (Int32 × SI) := bd (f_X12_ofBlast N R σ x0 x1 (8 : Int32)) (fun a1 σ1 => f_X12_disturbs_13 N R N σ1 x0 x1 x2 ((3 : Int32) * a1) (0 : Int32))
set_option maxHeartbeats 4000000 in
set_option maxRecDepth 100000 in
theorem w_X12_disturbs_49 {l : Launch} {g : GL} {p : Program} {e : Jvm.Env} {s : State} {m : MethodId} {args : Array Value} {below : List Frame} {meth : Method} {c : Code} {R : Nat → Nat → Nat} {L : Nat → Nat → Int64} {r : (Int32 × SI)} {N : Nat} {k13 : SI → Nat → Int32 → Int32 → Int32 → Int32 → Option (Int32 × SI)} (C : Cx l g p s m meth c cX12_disturbs 5 RX12) (hr : meth.sig.returnType = (some .boolean)) (hSh : ShR R) (hk13 : ∀ (σ : SI) (x0 : Nat) (x1 : Int32) (x2 : Int32) (x3 : Int32) (x4 : Int32), k13 σ x0 x1 x2 x3 x4 = some r → Ok 194 x0 12 → ∀ (H : Heap) (locs : List Loc) (ls : Array Slot), S2 g s σ R L H locs → lv_has ls 5 [(0, .ref (gb g + x0)), (1, .int x1), (2, .int x2), (3, .int x3), (4, .int x4)] → W p l e (rmd 3 0 0) s m args below meth c H locs 0 0 (MQ below (Qg g 194 (PI R L r)) args s 0 0 (gA g)) (F0 m 13 ls [])) : ∀ (σ : SI) (x0 : Nat) (x1 : Int32) (x2 : Int32) (x3 : Int32) (x4 : Int32), f_X12_disturbs_49 N R k13 σ x0 x1 x2 x3 x4 = some r → Ok 194 x0 12 → ∀ (H : Heap) (locs : List Loc) (ls : Array Slot), S2 g s σ R L H locs → lv_has ls 5 [(0, .ref (gb g + x0)), (1, .int x1), (2, .int x2), (3, .int x3), (4, .int x4)] → W p l e (rmd 3 0 0) s m args below meth c H locs 0 0 (MQ below (Qg g 194 (PI R L r)) args s 0 0 (gA g)) (F0 m 49 ls []) := by
  have hx := C.1
  have hb := C.2.1
  intro σ x0 x1 x2 x3 x4 h hx0 H locs ls S hl
  rw [f_X12_disturbs_49] at h
  refine lv_iinc (v := x4 + 1) (lv' := [(4, .int (x4 + 1)), (0, .ref (gb g + x0)), (1, .int x1), (2, .int x2), (3, .int x3)]) hx hb dX12_disturbs_49 hl (k := 4) rfl rfl (by decide) rfl (fun ls hl => ?_)
  refine lv_goto (tgt := 13) hx hb dX12_disturbs_52 (by decide) ?_
  exact hk13 σ x0 x1 x2 x3 (x4 + 1) h hx0 H locs ls S (lv_sub hl [1, 2, 3, 4, 0] rfl)
set_option maxHeartbeats 4000000 in
set_option maxRecDepth 100000 in
theorem w_X12_disturbs_13 {l : Launch} {g : GL} {p : Program} {e : Jvm.Env} {s : State} {m : MethodId} {args : Array Value} {below : List Frame} {meth : Method} {c : Code} {R : Nat → Nat → Nat} {L : Nat → Nat → Int64} {r : (Int32 × SI)} {N : Nat} (C : Cx l g p s m meth c cX12_disturbs 5 RX12) (hr : meth.sig.returnType = (some .boolean)) (hSh : ShR R) : ∀ (n : Nat) (σ : SI) (x0 : Nat) (x1 : Int32) (x2 : Int32) (x3 : Int32) (x4 : Int32), f_X12_disturbs_13 N R n σ x0 x1 x2 x3 x4 = some r → Ok 194 x0 12 → ∀ (H : Heap) (locs : List Loc) (ls : Array Slot), S2 g s σ R L H locs → lv_has ls 5 [(0, .ref (gb g + x0)), (1, .int x1), (2, .int x2), (3, .int x3), (4, .int x4)] → W p l e (rmd 3 0 0) s m args below meth c H locs 0 0 (MQ below (Qg g 194 (PI R L r)) args s 0 0 (gA g)) (F0 m 13 ls []) := by
  have hx := C.1
  have hb := C.2.1
  intro n
  induction n with
  | zero =>
    intro σ x0 x1 x2 x3 x4 h
    cases (show (none : Option (Int32 × SI)) = some r from h)
  | succ n ih =>
    intro σ x0 x1 x2 x3 x4 h hx0 H locs ls S hl
    rw [f_X12_disturbs_13] at h
    refine lv_iload hx hb dX12_disturbs_13 (lv_at hl 4 rfl) ?_
    refine lv_aload_n hx hb dX12_disturbs_15 rfl (lv_at hl 0 rfl) ?_
    have hR2 : Ok 194 (R x0 11) 10417 := hSh x0 12 11 10417 hx0.1 rfl
    refine x_getR C S KX12 hx0 11 (by decide) rfl rfl fl_RX12_88 hR2 dX12_disturbs_16 ?_
    refine lv_iconst (v := (0 : Int32)) hx hb dX12_disturbs_19 (by decide) ?_
    obtain ⟨hi3, h⟩ := ck_el h
    refine x_iald (len := 417) C S (by decide) hR2 hi3 dX12_disturbs_20 ?_
    refine lv_icmp_ge (tgt := 55) hx hb dX12_disturbs_21 (by decide) (fun c4 => ?_) (fun c4 => ?_)
    · have h := it_p c4 h
      refine lv_iconst (v := (0 : Int32)) hx hb dX12_disturbs_55 (by decide) ?_
      exact x_zret C S hr (by decide) h dX12_disturbs_56
    · have h := it_n c4 h
      refine lv_aload_n hx hb dX12_disturbs_24 rfl (lv_at hl 0 rfl) ?_
      refine lv_iload hx hb dX12_disturbs_25 (lv_at hl 4 rfl) ?_
      refine lv_iload_n hx hb dX12_disturbs_27 rfl (lv_at hl 2 rfl) ?_
      obtain ⟨a5, σ5, hc5, h⟩ := bd_el h
      refine x_callVI C S KX12 hx0 (ok_X12_isStill (L := L) hc5 hSh hx0) ⟨cd_X12_isStill, ni_RX12, ml_RX12_263, in_X12_isStill, sl_X12_isStill⟩ ⟨by decide, by decide⟩ rfl ⟨by decide, by decide⟩ hl.1 rfl (Nat.le_of_ble_eq_true rfl) ⟨by decide, by decide⟩ dX12_disturbs_28 (fun H locs S => ?_)
      refine lv_if_eq (tgt := 49) hx hb dX12_disturbs_31 (by decide) (fun c6 => ?_) (fun c6 => ?_)
      · have h := it_p c6 h
        exact w_X12_disturbs_49 C hr hSh ih σ5 x0 x1 x2 x3 x4 h hx0 H locs ls S (lv_sub hl [0, 1, 2, 3, 4] rfl)
      · have h := it_n c6 h
        refine lv_aload_n hx hb dX12_disturbs_34 rfl (lv_at hl 0 rfl) ?_
        refine lv_iload_n hx hb dX12_disturbs_35 rfl (lv_at hl 1 rfl) ?_
        refine lv_iload hx hb dX12_disturbs_36 (lv_at hl 4 rfl) ?_
        obtain ⟨a7, σ7, hc7, h⟩ := bd_el h
        refine x_callVI C S KX12 hx0 (ok_X12_farAway (L := L) hc7 hSh hx0) ⟨cd_X12_farAway, ni_RX12, ml_RX12_236, in_X12_farAway, sl_X12_farAway⟩ ⟨by decide, by decide⟩ rfl ⟨by decide, by decide⟩ hl.1 rfl (Nat.le_of_ble_eq_true rfl) ⟨by decide, by decide⟩ dX12_disturbs_38 (fun H locs S => ?_)
        refine lv_iload_n hx hb dX12_disturbs_41 rfl (lv_at hl 3 rfl) ?_
        refine lv_iload_n hx hb dX12_disturbs_42 rfl (lv_at hl 3 rfl) ?_
        refine lv_imul hx hb dX12_disturbs_43 ?_
        refine lv_icmp_gt (tgt := 49) hx hb dX12_disturbs_44 (by decide) (fun c8 => ?_) (fun c8 => ?_)
        · have h := it_p c8 h
          exact w_X12_disturbs_49 C hr hSh ih σ7 x0 x1 x2 x3 x4 h hx0 H locs ls S (lv_sub hl [0, 1, 2, 3, 4] rfl)
        · have h := it_n c8 h
          refine lv_iconst (v := (1 : Int32)) hx hb dX12_disturbs_47 (by decide) ?_
          exact x_zret C S hr (by decide) h dX12_disturbs_48
set_option maxHeartbeats 4000000 in
set_option maxRecDepth 100000 in
theorem ok_X12_disturbs {l : Launch} {g : GL} {R : Nat → Nat → Nat} {L : Nat → Nat → Int64} {N : Nat} {σ : SI} {x0 : Nat} {x1 : Int32} {x2 : Int32} {r : (Int32 × SI)} (h : f_X12_disturbs N R σ x0 x1 x2 = some r) (hSh : ShR R) (hx0 : Ok 194 x0 12) : Ct l g 3 yX12_disturbs cX12_disturbs 5 (some .boolean) 194 194 0 0 [.ref (gb g + x0), .int x1, .int x2] (mkS σ R L) (PI R L r) := by
  refine Met.ofW (cc := cX12_disturbs) (maxL := 5) (ret := (some .boolean)) (by decide) rfl ?_
  intro p e s m args below meth c s₁ B hml hv
  obtain ⟨rfl, hE, hLo, hWd⟩ := hv
  have hr : meth.sig.returnType = (some .boolean) := B.returns
  have C : Cx l g p s m meth c cX12_disturbs 5 RX12 := ⟨B.exec, B.bytes, hml, findClass_of_methodNamed B.named, hE, hLo, B.notSynchronized⟩
  have S : S2 g s σ R L s.heap [] := ⟨hWd, va_S.rf⟩
  have hx := C.1
  have hb := C.2.1
  have hl := lv_entry ([.ref (gb g + x0), .int x1, .int x2]) (n := 5) (Nat.le_of_ble_eq_true rfl)
  rw [lg_entry_eq]
  generalize (lg_sl ([.ref (gb g + x0), .int x1, .int x2]) ++ List.replicate (5 - (lg_sl ([.ref (gb g + x0), .int x1, .int x2])).length) Slot.unset).toArray = ls at hl ⊢
  have hl : lv_has ls 5 [(0, .ref (gb g + x0)), (1, .int x1), (2, .int x2)] := hl
  generalize hH : s.heap = H at S ⊢
  generalize hlc : ([] : List Loc) = locs at S ⊢
  rw [f_X12_disturbs] at h
  refine lv_iconst (v := (3 : Int32)) hx hb dX12_disturbs_0 (by decide) ?_
  refine lv_aload_n hx hb dX12_disturbs_1 rfl (lv_at hl 0 rfl) ?_
  refine lv_iload_n hx hb dX12_disturbs_2 rfl (lv_at hl 1 rfl) ?_
  refine lv_bipush (v := (8 : Int32)) hx hb dX12_disturbs_3 (by decide) ?_
  obtain ⟨a1, σ1, hc1, h⟩ := bd_el h
  refine x_callVI C S KX12 hx0 (ok_X12_ofBlast (L := L) hc1 hSh hx0) ⟨cd_X12_ofBlast, ni_RX12, ml_RX12_192, in_X12_ofBlast, sl_X12_ofBlast⟩ ⟨by decide, by decide⟩ rfl ⟨by decide, by decide⟩ hl.1 rfl (Nat.le_of_ble_eq_true rfl) ⟨by decide, by decide⟩ dX12_disturbs_5 (fun H locs S => ?_)
  refine lv_imul hx hb dX12_disturbs_8 ?_
  refine lv_istore_n (lv' := [(3, .int ((3 : Int32) * a1)), (0, .ref (gb g + x0)), (1, .int x1), (2, .int x2)]) hx hb dX12_disturbs_9 rfl hl (by decide) rfl (fun ls hl => ?_)
  refine lv_iconst (v := (0 : Int32)) hx hb dX12_disturbs_10 (by decide) ?_
  refine lv_istore (lv' := [(4, .int (0 : Int32)), (3, .int ((3 : Int32) * a1)), (0, .ref (gb g + x0)), (1, .int x1), (2, .int x2)]) hx hb dX12_disturbs_11 hl (by decide) rfl (fun ls hl => ?_)
  exact w_X12_disturbs_13 C hr hSh N σ1 x0 x1 x2 ((3 : Int32) * a1) (0 : Int32) h hx0 H locs ls S (lv_sub hl [2, 3, 4, 1, 0] rfl)
theorem dX12_isCrowded_0 : decode cX12_isCrowded 0 = .ok (.iconst 0, 1) := by decide +kernel
theorem dX12_isCrowded_1 : decode cX12_isCrowded 1 = .ok (.istore_n 3, 1) := by decide +kernel
theorem dX12_isCrowded_2 : decode cX12_isCrowded 2 = .ok (.iload_n 3, 1) := by decide +kernel
theorem dX12_isCrowded_3 : decode cX12_isCrowded 3 = .ok (.aload_n 0, 1) := by decide +kernel
theorem dX12_isCrowded_4 : decode cX12_isCrowded 4 = .ok (.invokevirtual 142, 3) := by decide +kernel
theorem dX12_isCrowded_7 : decode cX12_isCrowded 7 = .ok (.if_icmp .ge 45, 3) := by decide +kernel
theorem dX12_isCrowded_10 : decode cX12_isCrowded 10 = .ok (.iload_n 3, 1) := by decide +kernel
theorem dX12_isCrowded_11 : decode cX12_isCrowded 11 = .ok (.iload_n 1, 1) := by decide +kernel
theorem dX12_isCrowded_12 : decode cX12_isCrowded 12 = .ok (.if_icmp .eq 34, 3) := by decide +kernel
theorem dX12_isCrowded_15 : decode cX12_isCrowded 15 = .ok (.aload_n 0, 1) := by decide +kernel
theorem dX12_isCrowded_16 : decode cX12_isCrowded 16 = .ok (.iload_n 3, 1) := by decide +kernel
theorem dX12_isCrowded_17 : decode cX12_isCrowded 17 = .ok (.invokevirtual 281, 3) := by decide +kernel
theorem dX12_isCrowded_20 : decode cX12_isCrowded 20 = .ok (.iconst (-1), 1) := by decide +kernel
theorem dX12_isCrowded_21 : decode cX12_isCrowded 21 = .ok (.if_icmp .eq 25, 3) := by decide +kernel
theorem dX12_isCrowded_24 : decode cX12_isCrowded 24 = .ok (.aload_n 0, 1) := by decide +kernel
theorem dX12_isCrowded_25 : decode cX12_isCrowded 25 = .ok (.iload_n 3, 1) := by decide +kernel
theorem dX12_isCrowded_26 : decode cX12_isCrowded 26 = .ok (.invokevirtual 281, 3) := by decide +kernel
theorem dX12_isCrowded_29 : decode cX12_isCrowded 29 = .ok (.iload_n 2, 1) := by decide +kernel
theorem dX12_isCrowded_30 : decode cX12_isCrowded 30 = .ok (.isub, 1) := by decide +kernel
theorem dX12_isCrowded_31 : decode cX12_isCrowded 31 = .ok (.invokestatic 272, 3) := by decide +kernel
theorem dX12_isCrowded_34 : decode cX12_isCrowded 34 = .ok (.aload_n 0, 1) := by decide +kernel
theorem dX12_isCrowded_35 : decode cX12_isCrowded 35 = .ok (.getfield 88, 3) := by decide +kernel
theorem dX12_isCrowded_38 : decode cX12_isCrowded 38 = .ok (.bipush 8, 2) := by decide +kernel
theorem dX12_isCrowded_40 : decode cX12_isCrowded 40 = .ok (.iaload, 1) := by decide +kernel
theorem dX12_isCrowded_41 : decode cX12_isCrowded 41 = .ok (.if_icmp .ge 5, 3) := by decide +kernel
theorem dX12_isCrowded_44 : decode cX12_isCrowded 44 = .ok (.iconst 1, 1) := by decide +kernel
theorem dX12_isCrowded_45 : decode cX12_isCrowded 45 = .ok (.ireturn, 1) := by decide +kernel
theorem dX12_isCrowded_46 : decode cX12_isCrowded 46 = .ok (.iinc 3 1, 3) := by decide +kernel
theorem dX12_isCrowded_49 : decode cX12_isCrowded 49 = .ok (.goto (-47), 3) := by decide +kernel
theorem dX12_isCrowded_52 : decode cX12_isCrowded 52 = .ok (.iconst 0, 1) := by decide +kernel
theorem dX12_isCrowded_53 : decode cX12_isCrowded 53 = .ok (.ireturn, 1) := by decide +kernel
def f_X12_isCrowded_46 (N : Nat) (R : Nat → Nat → Nat) (k2 : SI → Nat → Int32 → Int32 → Int32 → Option (Int32 × SI)) (σ : SI) (x0 : Nat) (x1 : Int32) (x2 : Int32) (x3 : Int32) : Option (Int32 × SI) := k2 σ x0 x1 x2 (x3 + 1)
def f_X12_isCrowded_2 (N : Nat) (R : Nat → Nat → Nat) : Nat → SI → Nat → Int32 → Int32 → Int32 → Option (Int32 × SI)
  | 0, _, _, _, _, _ => none
  | n + 1, σ, x0, x1, x2, x3 => bd (f_X12_blasts N R σ x0) (fun a1 σ1 => if a1 ≤ x3 then (some ((0 : Int32), σ1)) else (if x3 = x1 then (f_X12_isCrowded_46 N R (fun σ x0 x1 x2 x3 => f_X12_isCrowded_2 N R n σ x0 x1 x2 x3) σ1 x0 x1 x2 x3) else (bd (f_X12_time N R σ1 x0 x3) (fun a4 σ4 => if a4 = (-1 : Int32) then (f_X12_isCrowded_46 N R (fun σ x0 x1 x2 x3 => f_X12_isCrowded_2 N R n σ x0 x1 x2 x3) σ4 x0 x1 x2 x3) else (bd (f_X12_time N R σ4 x0 x3) (fun a6 σ6 => ck (8 : Int32) 417 (if (σ6 (R x0 11) (8 : Int32).toNatClampNeg) ≤ (if 0 ≤ (a6 - x2) then (a6 - x2) else 0 - (a6 - x2)) then (f_X12_isCrowded_46 N R (fun σ x0 x1 x2 x3 => f_X12_isCrowded_2 N R n σ x0 x1 x2 x3) σ6 x0 x1 x2 x3) else (some ((1 : Int32), σ6)))))))))
def f_X12_isCrowded (N : Nat) (R : Nat → Nat → Nat) (σ : SI) (x0 : Nat) (x1 : Int32) (x2 : Int32) : Option (Int32 × SI) := f_X12_isCrowded_2 N R N σ x0 x1 x2 (0 : Int32)
set_option maxHeartbeats 4000000 in
set_option maxRecDepth 100000 in
theorem w_X12_isCrowded_46 {l : Launch} {g : GL} {p : Program} {e : Jvm.Env} {s : State} {m : MethodId} {args : Array Value} {below : List Frame} {meth : Method} {c : Code} {R : Nat → Nat → Nat} {L : Nat → Nat → Int64} {r : (Int32 × SI)} {N : Nat} {k2 : SI → Nat → Int32 → Int32 → Int32 → Option (Int32 × SI)} (C : Cx l g p s m meth c cX12_isCrowded 4 RX12) (hr : meth.sig.returnType = (some .boolean)) (hSh : ShR R) (hk2 : ∀ (σ : SI) (x0 : Nat) (x1 : Int32) (x2 : Int32) (x3 : Int32), k2 σ x0 x1 x2 x3 = some r → Ok 194 x0 12 → ∀ (H : Heap) (locs : List Loc) (ls : Array Slot), S2 g s σ R L H locs → lv_has ls 4 [(0, .ref (gb g + x0)), (1, .int x1), (2, .int x2), (3, .int x3)] → W p l e (rmd 2 0 0) s m args below meth c H locs 0 0 (MQ below (Qg g 194 (PI R L r)) args s 0 0 (gA g)) (F0 m 2 ls [])) : ∀ (σ : SI) (x0 : Nat) (x1 : Int32) (x2 : Int32) (x3 : Int32), f_X12_isCrowded_46 N R k2 σ x0 x1 x2 x3 = some r → Ok 194 x0 12 → ∀ (H : Heap) (locs : List Loc) (ls : Array Slot), S2 g s σ R L H locs → lv_has ls 4 [(0, .ref (gb g + x0)), (1, .int x1), (2, .int x2), (3, .int x3)] → W p l e (rmd 2 0 0) s m args below meth c H locs 0 0 (MQ below (Qg g 194 (PI R L r)) args s 0 0 (gA g)) (F0 m 46 ls []) := by
  have hx := C.1
  have hb := C.2.1
  intro σ x0 x1 x2 x3 h hx0 H locs ls S hl
  rw [f_X12_isCrowded_46] at h
  refine lv_iinc (v := x3 + 1) (lv' := [(3, .int (x3 + 1)), (0, .ref (gb g + x0)), (1, .int x1), (2, .int x2)]) hx hb dX12_isCrowded_46 hl (k := 3) rfl rfl (by decide) rfl (fun ls hl => ?_)
  refine lv_goto (tgt := 2) hx hb dX12_isCrowded_49 (by decide) ?_
  exact hk2 σ x0 x1 x2 (x3 + 1) h hx0 H locs ls S (lv_sub hl [1, 2, 3, 0] rfl)
set_option maxHeartbeats 4000000 in
set_option maxRecDepth 100000 in
theorem w_X12_isCrowded_2 {l : Launch} {g : GL} {p : Program} {e : Jvm.Env} {s : State} {m : MethodId} {args : Array Value} {below : List Frame} {meth : Method} {c : Code} {R : Nat → Nat → Nat} {L : Nat → Nat → Int64} {r : (Int32 × SI)} {N : Nat} (C : Cx l g p s m meth c cX12_isCrowded 4 RX12) (hr : meth.sig.returnType = (some .boolean)) (hSh : ShR R) : ∀ (n : Nat) (σ : SI) (x0 : Nat) (x1 : Int32) (x2 : Int32) (x3 : Int32), f_X12_isCrowded_2 N R n σ x0 x1 x2 x3 = some r → Ok 194 x0 12 → ∀ (H : Heap) (locs : List Loc) (ls : Array Slot), S2 g s σ R L H locs → lv_has ls 4 [(0, .ref (gb g + x0)), (1, .int x1), (2, .int x2), (3, .int x3)] → W p l e (rmd 2 0 0) s m args below meth c H locs 0 0 (MQ below (Qg g 194 (PI R L r)) args s 0 0 (gA g)) (F0 m 2 ls []) := by
  have hx := C.1
  have hb := C.2.1
  intro n
  induction n with
  | zero =>
    intro σ x0 x1 x2 x3 h
    cases (show (none : Option (Int32 × SI)) = some r from h)
  | succ n ih =>
    intro σ x0 x1 x2 x3 h hx0 H locs ls S hl
    rw [f_X12_isCrowded_2] at h
    refine lv_iload_n hx hb dX12_isCrowded_2 rfl (lv_at hl 3 rfl) ?_
    refine lv_aload_n hx hb dX12_isCrowded_3 rfl (lv_at hl 0 rfl) ?_
    obtain ⟨a1, σ1, hc1, h⟩ := bd_el h
    refine x_callVI C S KX12 hx0 (ok_X12_blasts (L := L) hc1 hSh hx0) ⟨cd_X12_blasts, ni_RX12, ml_RX12_142, in_X12_blasts, sl_X12_blasts⟩ ⟨by decide, by decide⟩ rfl ⟨by decide, by decide⟩ hl.1 rfl (Nat.le_of_ble_eq_true rfl) ⟨by decide, by decide⟩ dX12_isCrowded_4 (fun H locs S => ?_)
    refine lv_icmp_ge (tgt := 52) hx hb dX12_isCrowded_7 (by decide) (fun c2 => ?_) (fun c2 => ?_)
    · have h := it_p c2 h
      refine lv_iconst (v := (0 : Int32)) hx hb dX12_isCrowded_52 (by decide) ?_
      exact x_zret C S hr (by decide) h dX12_isCrowded_53
    · have h := it_n c2 h
      refine lv_iload_n hx hb dX12_isCrowded_10 rfl (lv_at hl 3 rfl) ?_
      refine lv_iload_n hx hb dX12_isCrowded_11 rfl (lv_at hl 1 rfl) ?_
      refine lv_icmp_eq (tgt := 46) hx hb dX12_isCrowded_12 (by decide) (fun c3 => ?_) (fun c3 => ?_)
      · have h := it_p c3 h
        exact w_X12_isCrowded_46 C hr hSh ih σ1 x0 x1 x2 x3 h hx0 H locs ls S (lv_sub hl [0, 1, 2, 3] rfl)
      · have h := it_n c3 h
        refine lv_aload_n hx hb dX12_isCrowded_15 rfl (lv_at hl 0 rfl) ?_
        refine lv_iload_n hx hb dX12_isCrowded_16 rfl (lv_at hl 3 rfl) ?_
        obtain ⟨a4, σ4, hc4, h⟩ := bd_el h
        refine x_callVI C S KX12 hx0 (ok_X12_time (L := L) hc4 hSh hx0) ⟨cd_X12_time, ni_RX12, ml_RX12_281, in_X12_time, sl_X12_time⟩ ⟨by decide, by decide⟩ rfl ⟨by decide, by decide⟩ hl.1 rfl (Nat.le_of_ble_eq_true rfl) ⟨by decide, by decide⟩ dX12_isCrowded_17 (fun H locs S => ?_)
        refine lv_iconst (v := (-1 : Int32)) hx hb dX12_isCrowded_20 (by decide) ?_
        refine lv_icmp_eq (tgt := 46) hx hb dX12_isCrowded_21 (by decide) (fun c5 => ?_) (fun c5 => ?_)
        · have h := it_p c5 h
          exact w_X12_isCrowded_46 C hr hSh ih σ4 x0 x1 x2 x3 h hx0 H locs ls S (lv_sub hl [0, 1, 2, 3] rfl)
        · have h := it_n c5 h
          refine lv_aload_n hx hb dX12_isCrowded_24 rfl (lv_at hl 0 rfl) ?_
          refine lv_iload_n hx hb dX12_isCrowded_25 rfl (lv_at hl 3 rfl) ?_
          obtain ⟨a6, σ6, hc6, h⟩ := bd_el h
          refine x_callVI C S KX12 hx0 (ok_X12_time (L := L) hc6 hSh hx0) ⟨cd_X12_time, ni_RX12, ml_RX12_281, in_X12_time, sl_X12_time⟩ ⟨by decide, by decide⟩ rfl ⟨by decide, by decide⟩ hl.1 rfl (Nat.le_of_ble_eq_true rfl) ⟨by decide, by decide⟩ dX12_isCrowded_26 (fun H locs S => ?_)
          refine lv_iload_n hx hb dX12_isCrowded_29 rfl (lv_at hl 2 rfl) ?_
          refine lv_isub hx hb dX12_isCrowded_30 ?_
          refine x_abs C hl.1 ⟨ml_RX12_272, st_math_abs, ni_math, cd_math_abs⟩ (Nat.le_of_ble_eq_true rfl) (Nat.le_of_ble_eq_true rfl) (Nat.le_of_ble_eq_true rfl) (Nat.le_of_ble_eq_true rfl) dX12_isCrowded_31 ?_
          refine lv_aload_n hx hb dX12_isCrowded_34 rfl (lv_at hl 0 rfl) ?_
          have hR7 : Ok 194 (R x0 11) 10417 := hSh x0 12 11 10417 hx0.1 rfl
          refine x_getR C S KX12 hx0 11 (by decide) rfl rfl fl_RX12_88 hR7 dX12_isCrowded_35 ?_
          refine lv_bipush (v := (8 : Int32)) hx hb dX12_isCrowded_38 (by decide) ?_
          obtain ⟨hi8, h⟩ := ck_el h
          refine x_iald (len := 417) C S (by decide) hR7 hi8 dX12_isCrowded_40 ?_
          refine lv_icmp_ge (tgt := 46) hx hb dX12_isCrowded_41 (by decide) (fun c9 => ?_) (fun c9 => ?_)
          · have h := it_p c9 h
            exact w_X12_isCrowded_46 C hr hSh ih σ6 x0 x1 x2 x3 h hx0 H locs ls S (lv_sub hl [0, 1, 2, 3] rfl)
          · have h := it_n c9 h
            refine lv_iconst (v := (1 : Int32)) hx hb dX12_isCrowded_44 (by decide) ?_
            exact x_zret C S hr (by decide) h dX12_isCrowded_45
set_option maxHeartbeats 4000000 in
set_option maxRecDepth 100000 in
theorem ok_X12_isCrowded {l : Launch} {g : GL} {R : Nat → Nat → Nat} {L : Nat → Nat → Int64} {N : Nat} {σ : SI} {x0 : Nat} {x1 : Int32} {x2 : Int32} {r : (Int32 × SI)} (h : f_X12_isCrowded N R σ x0 x1 x2 = some r) (hSh : ShR R) (hx0 : Ok 194 x0 12) : Ct l g 2 yX12_isCrowded cX12_isCrowded 4 (some .boolean) 194 194 0 0 [.ref (gb g + x0), .int x1, .int x2] (mkS σ R L) (PI R L r) := by
  refine Met.ofW (cc := cX12_isCrowded) (maxL := 4) (ret := (some .boolean)) (by decide) rfl ?_
  intro p e s m args below meth c s₁ B hml hv
  obtain ⟨rfl, hE, hLo, hWd⟩ := hv
  have hr : meth.sig.returnType = (some .boolean) := B.returns
  have C : Cx l g p s m meth c cX12_isCrowded 4 RX12 := ⟨B.exec, B.bytes, hml, findClass_of_methodNamed B.named, hE, hLo, B.notSynchronized⟩
  have S : S2 g s σ R L s.heap [] := ⟨hWd, va_S.rf⟩
  have hx := C.1
  have hb := C.2.1
  have hl := lv_entry ([.ref (gb g + x0), .int x1, .int x2]) (n := 4) (Nat.le_of_ble_eq_true rfl)
  rw [lg_entry_eq]
  generalize (lg_sl ([.ref (gb g + x0), .int x1, .int x2]) ++ List.replicate (4 - (lg_sl ([.ref (gb g + x0), .int x1, .int x2])).length) Slot.unset).toArray = ls at hl ⊢
  have hl : lv_has ls 4 [(0, .ref (gb g + x0)), (1, .int x1), (2, .int x2)] := hl
  generalize hH : s.heap = H at S ⊢
  generalize hlc : ([] : List Loc) = locs at S ⊢
  rw [f_X12_isCrowded] at h
  refine lv_iconst (v := (0 : Int32)) hx hb dX12_isCrowded_0 (by decide) ?_
  refine lv_istore_n (lv' := [(3, .int (0 : Int32)), (0, .ref (gb g + x0)), (1, .int x1), (2, .int x2)]) hx hb dX12_isCrowded_1 rfl hl (by decide) rfl (fun ls hl => ?_)
  exact w_X12_isCrowded_2 C hr hSh N σ x0 x1 x2 (0 : Int32) h hx0 H locs ls S (lv_sub hl [1, 2, 3, 0] rfl)
theorem dX12_why_0 : decode cX12_why 0 = .ok (.iload_n 2, 1) := by decide +kernel
theorem dX12_why_1 : decode cX12_why 1 = .ok (.aload_n 0, 1) := by decide +kernel
theorem dX12_why_2 : decode cX12_why 2 = .ok (.getfield 88, 3) := by decide +kernel
theorem dX12_why_5 : decode cX12_why 5 = .ok (.iconst 3, 1) := by decide +kernel
theorem dX12_why_6 : decode cX12_why 6 = .ok (.iaload, 1) := by decide +kernel
theorem dX12_why_7 : decode cX12_why 7 = .ok (.aload_n 0, 1) := by decide +kernel
theorem dX12_why_8 : decode cX12_why 8 = .ok (.getfield 88, 3) := by decide +kernel
theorem dX12_why_11 : decode cX12_why 11 = .ok (.iconst 4, 1) := by decide +kernel
theorem dX12_why_12 : decode cX12_why 12 = .ok (.iaload, 1) := by decide +kernel
theorem dX12_why_13 : decode cX12_why 13 = .ok (.invokestatic 71, 3) := by decide +kernel
theorem dX12_why_16 : decode cX12_why 16 = .ok (.ifCond .ne 5, 3) := by decide +kernel
theorem dX12_why_19 : decode cX12_why 19 = .ok (.iconst 1, 1) := by decide +kernel
theorem dX12_why_20 : decode cX12_why 20 = .ok (.ireturn, 1) := by decide +kernel
theorem dX12_why_21 : decode cX12_why 21 = .ok (.aload_n 0, 1) := by decide +kernel
theorem dX12_why_22 : decode cX12_why 22 = .ok (.iload_n 1, 1) := by decide +kernel
theorem dX12_why_23 : decode cX12_why 23 = .ok (.invokevirtual 284, 3) := by decide +kernel
theorem dX12_why_26 : decode cX12_why 26 = .ok (.ifCond .eq 5, 3) := by decide +kernel
theorem dX12_why_29 : decode cX12_why 29 = .ok (.iconst 2, 1) := by decide +kernel
theorem dX12_why_30 : decode cX12_why 30 = .ok (.ireturn, 1) := by decide +kernel
theorem dX12_why_31 : decode cX12_why 31 = .ok (.aload_n 0, 1) := by decide +kernel
theorem dX12_why_32 : decode cX12_why 32 = .ok (.iload_n 1, 1) := by decide +kernel
theorem dX12_why_33 : decode cX12_why 33 = .ok (.iload_n 2, 1) := by decide +kernel
theorem dX12_why_34 : decode cX12_why 34 = .ok (.invokevirtual 287, 3) := by decide +kernel
theorem dX12_why_37 : decode cX12_why 37 = .ok (.ifCond .eq 5, 3) := by decide +kernel
theorem dX12_why_40 : decode cX12_why 40 = .ok (.iconst 3, 1) := by decide +kernel
theorem dX12_why_41 : decode cX12_why 41 = .ok (.ireturn, 1) := by decide +kernel
theorem dX12_why_42 : decode cX12_why 42 = .ok (.aload_n 0, 1) := by decide +kernel
theorem dX12_why_43 : decode cX12_why 43 = .ok (.iload_n 1, 1) := by decide +kernel
theorem dX12_why_44 : decode cX12_why 44 = .ok (.iload_n 2, 1) := by decide +kernel
theorem dX12_why_45 : decode cX12_why 45 = .ok (.bipush 60, 2) := by decide +kernel
theorem dX12_why_47 : decode cX12_why 47 = .ok (.idiv, 1) := by decide +kernel
theorem dX12_why_48 : decode cX12_why 48 = .ok (.invokevirtual 278, 3) := by decide +kernel
theorem dX12_why_51 : decode cX12_why 51 = .ok (.ifCond .eq 5, 3) := by decide +kernel
theorem dX12_why_54 : decode cX12_why 54 = .ok (.iconst 4, 1) := by decide +kernel
theorem dX12_why_55 : decode cX12_why 55 = .ok (.ireturn, 1) := by decide +kernel
theorem dX12_why_56 : decode cX12_why 56 = .ok (.aload_n 0, 1) := by decide +kernel
theorem dX12_why_57 : decode cX12_why 57 = .ok (.iload_n 1, 1) := by decide +kernel
theorem dX12_why_58 : decode cX12_why 58 = .ok (.iload_n 2, 1) := by decide +kernel
theorem dX12_why_59 : decode cX12_why 59 = .ok (.invokevirtual 290, 3) := by decide +kernel
theorem dX12_why_62 : decode cX12_why 62 = .ok (.ifCond .eq 7, 3) := by decide +kernel
theorem dX12_why_65 : decode cX12_why 65 = .ok (.iconst 5, 1) := by decide +kernel
theorem dX12_why_66 : decode cX12_why 66 = .ok (.goto 4, 3) := by decide +kernel
theorem dX12_why_69 : decode cX12_why 69 = .ok (.iconst 0, 1) := by decide +kernel
theorem dX12_why_70 : decode cX12_why 70 = .ok (.ireturn, 1) := by decide +kernel
def f_X12_why (N : Nat) (R : Nat → Nat → Nat) (σ : SI) (x0 : Nat) (x1 : Int32) (x2 : Int32) : Option (Int32 × SI) := ck (3 : Int32) 417 (ck (4 : Int32) 417 (bd (f_X12_in N R σ x2 (σ (R x0 11) (3 : Int32).toNatClampNeg) (σ (R x0 11) (4 : Int32).toNatClampNeg)) (fun a5 σ5 => if a5 = 0 then (some ((1 : Int32), σ5)) else (bd (f_X12_shakesSome N R σ5 x0 x1) (fun a7 σ7 => if a7 = 0 then (bd (f_X12_disturbs N R σ7 x0 x1 x2) (fun a9 σ9 => if a9 = 0 then (bd (f_X12_dusty N R σ9 x0 x1 (x2 / (60 : Int32))) (fun a11 σ11 => if a11 = 0 then (bd (f_X12_isCrowded N R σ11 x0 x1 x2) (fun a13 σ13 => if a13 = 0 then (some ((0 : Int32), σ13)) else (some ((5 : Int32), σ13)))) else (some ((4 : Int32), σ11)))) else (some ((3 : Int32), σ9)))) else (some ((2 : Int32), σ7)))))))
set_option maxHeartbeats 4000000 in
set_option maxRecDepth 100000 in
theorem ok_X12_why {l : Launch} {g : GL} {R : Nat → Nat → Nat} {L : Nat → Nat → Int64} {N : Nat} {σ : SI} {x0 : Nat} {x1 : Int32} {x2 : Int32} {r : (Int32 × SI)} (h : f_X12_why N R σ x0 x1 x2 = some r) (hSh : ShR R) (hx0 : Ok 194 x0 12) : Ct l g 8 yX12_why cX12_why 3 (some .int) 194 194 0 0 [.ref (gb g + x0), .int x1, .int x2] (mkS σ R L) (PI R L r) := by
  refine Met.ofW (cc := cX12_why) (maxL := 3) (ret := (some .int)) (by decide) rfl ?_
  intro p e s m args below meth c s₁ B hml hv
  obtain ⟨rfl, hE, hLo, hWd⟩ := hv
  have hr : meth.sig.returnType = (some .int) := B.returns
  have C : Cx l g p s m meth c cX12_why 3 RX12 := ⟨B.exec, B.bytes, hml, findClass_of_methodNamed B.named, hE, hLo, B.notSynchronized⟩
  have S : S2 g s σ R L s.heap [] := ⟨hWd, va_S.rf⟩
  have hx := C.1
  have hb := C.2.1
  have hl := lv_entry ([.ref (gb g + x0), .int x1, .int x2]) (n := 3) (Nat.le_of_ble_eq_true rfl)
  rw [lg_entry_eq]
  generalize (lg_sl ([.ref (gb g + x0), .int x1, .int x2]) ++ List.replicate (3 - (lg_sl ([.ref (gb g + x0), .int x1, .int x2])).length) Slot.unset).toArray = ls at hl ⊢
  have hl : lv_has ls 3 [(0, .ref (gb g + x0)), (1, .int x1), (2, .int x2)] := hl
  generalize hH : s.heap = H at S ⊢
  generalize hlc : ([] : List Loc) = locs at S ⊢
  rw [f_X12_why] at h
  refine lv_iload_n hx hb dX12_why_0 rfl (lv_at hl 2 rfl) ?_
  refine lv_aload_n hx hb dX12_why_1 rfl (lv_at hl 0 rfl) ?_
  have hR1 : Ok 194 (R x0 11) 10417 := hSh x0 12 11 10417 hx0.1 rfl
  refine x_getR C S KX12 hx0 11 (by decide) rfl rfl fl_RX12_88 hR1 dX12_why_2 ?_
  refine lv_iconst (v := (3 : Int32)) hx hb dX12_why_5 (by decide) ?_
  obtain ⟨hi2, h⟩ := ck_el h
  refine x_iald (len := 417) C S (by decide) hR1 hi2 dX12_why_6 ?_
  refine lv_aload_n hx hb dX12_why_7 rfl (lv_at hl 0 rfl) ?_
  have hR3 : Ok 194 (R x0 11) 10417 := hSh x0 12 11 10417 hx0.1 rfl
  refine x_getR C S KX12 hx0 11 (by decide) rfl rfl fl_RX12_88 hR3 dX12_why_8 ?_
  refine lv_iconst (v := (4 : Int32)) hx hb dX12_why_11 (by decide) ?_
  obtain ⟨hi4, h⟩ := ck_el h
  refine x_iald (len := 417) C S (by decide) hR3 hi4 dX12_why_12 ?_
  obtain ⟨a5, σ5, hc5, h⟩ := bd_el h
  refine x_callSI C S (ok_X12_in (L := L) hc5 hSh) ⟨cd_X12_in, ni_RX12, ml_RX12_71, st_X12_in⟩ ⟨by decide, by decide⟩ rfl ⟨by decide, by decide⟩ hl.1 rfl (Nat.le_of_ble_eq_true rfl) ⟨by decide, by decide⟩ dX12_why_13 (fun H locs S => ?_)
  refine lv_if_ne (tgt := 21) hx hb dX12_why_16 (by decide) (fun c6 => ?_) (fun c6 => ?_)
  · have h := it_n c6 h
    refine lv_aload_n hx hb dX12_why_21 rfl (lv_at hl 0 rfl) ?_
    refine lv_iload_n hx hb dX12_why_22 rfl (lv_at hl 1 rfl) ?_
    obtain ⟨a7, σ7, hc7, h⟩ := bd_el h
    refine x_callVI C S KX12 hx0 (ok_X12_shakesSome (L := L) hc7 hSh hx0) ⟨cd_X12_shakesSome, ni_RX12, ml_RX12_284, in_X12_shakesSome, sl_X12_shakesSome⟩ ⟨by decide, by decide⟩ rfl ⟨by decide, by decide⟩ hl.1 rfl (Nat.le_of_ble_eq_true rfl) ⟨by decide, by decide⟩ dX12_why_23 (fun H locs S => ?_)
    refine lv_if_eq (tgt := 31) hx hb dX12_why_26 (by decide) (fun c8 => ?_) (fun c8 => ?_)
    · have h := it_p c8 h
      refine lv_aload_n hx hb dX12_why_31 rfl (lv_at hl 0 rfl) ?_
      refine lv_iload_n hx hb dX12_why_32 rfl (lv_at hl 1 rfl) ?_
      refine lv_iload_n hx hb dX12_why_33 rfl (lv_at hl 2 rfl) ?_
      obtain ⟨a9, σ9, hc9, h⟩ := bd_el h
      refine x_callVI C S KX12 hx0 (ok_X12_disturbs (L := L) hc9 hSh hx0) ⟨cd_X12_disturbs, ni_RX12, ml_RX12_287, in_X12_disturbs, sl_X12_disturbs⟩ ⟨by decide, by decide⟩ rfl ⟨by decide, by decide⟩ hl.1 rfl (Nat.le_of_ble_eq_true rfl) ⟨by decide, by decide⟩ dX12_why_34 (fun H locs S => ?_)
      refine lv_if_eq (tgt := 42) hx hb dX12_why_37 (by decide) (fun c10 => ?_) (fun c10 => ?_)
      · have h := it_p c10 h
        refine lv_aload_n hx hb dX12_why_42 rfl (lv_at hl 0 rfl) ?_
        refine lv_iload_n hx hb dX12_why_43 rfl (lv_at hl 1 rfl) ?_
        refine lv_iload_n hx hb dX12_why_44 rfl (lv_at hl 2 rfl) ?_
        refine lv_bipush (v := (60 : Int32)) hx hb dX12_why_45 (by decide) ?_
        refine lv_idiv hx hb dX12_why_47 (by decide) ?_
        obtain ⟨a11, σ11, hc11, h⟩ := bd_el h
        refine x_callVI C S KX12 hx0 (ok_X12_dusty (L := L) hc11 hSh hx0) ⟨cd_X12_dusty, ni_RX12, ml_RX12_278, in_X12_dusty, sl_X12_dusty⟩ ⟨by decide, by decide⟩ rfl ⟨by decide, by decide⟩ hl.1 rfl (Nat.le_of_ble_eq_true rfl) ⟨by decide, by decide⟩ dX12_why_48 (fun H locs S => ?_)
        refine lv_if_eq (tgt := 56) hx hb dX12_why_51 (by decide) (fun c12 => ?_) (fun c12 => ?_)
        · have h := it_p c12 h
          refine lv_aload_n hx hb dX12_why_56 rfl (lv_at hl 0 rfl) ?_
          refine lv_iload_n hx hb dX12_why_57 rfl (lv_at hl 1 rfl) ?_
          refine lv_iload_n hx hb dX12_why_58 rfl (lv_at hl 2 rfl) ?_
          obtain ⟨a13, σ13, hc13, h⟩ := bd_el h
          refine x_callVI C S KX12 hx0 (ok_X12_isCrowded (L := L) hc13 hSh hx0) ⟨cd_X12_isCrowded, ni_RX12, ml_RX12_290, in_X12_isCrowded, sl_X12_isCrowded⟩ ⟨by decide, by decide⟩ rfl ⟨by decide, by decide⟩ hl.1 rfl (Nat.le_of_ble_eq_true rfl) ⟨by decide, by decide⟩ dX12_why_59 (fun H locs S => ?_)
          refine lv_if_eq (tgt := 69) hx hb dX12_why_62 (by decide) (fun c14 => ?_) (fun c14 => ?_)
          · have h := it_p c14 h
            refine lv_iconst (v := (0 : Int32)) hx hb dX12_why_69 (by decide) ?_
            exact x_iret C S hr h dX12_why_70
          · have h := it_n c14 h
            refine lv_iconst (v := (5 : Int32)) hx hb dX12_why_65 (by decide) ?_
            refine lv_goto (tgt := 70) hx hb dX12_why_66 (by decide) ?_
            exact x_iret C S hr h dX12_why_70
        · have h := it_n c12 h
          refine lv_iconst (v := (4 : Int32)) hx hb dX12_why_54 (by decide) ?_
          exact x_iret C S hr h dX12_why_55
      · have h := it_n c10 h
        refine lv_iconst (v := (3 : Int32)) hx hb dX12_why_40 (by decide) ?_
        exact x_iret C S hr h dX12_why_41
    · have h := it_n c8 h
      refine lv_iconst (v := (2 : Int32)) hx hb dX12_why_29 (by decide) ?_
      exact x_iret C S hr h dX12_why_30
  · have h := it_p c6 h
    refine lv_iconst (v := (1 : Int32)) hx hb dX12_why_19 (by decide) ?_
    exact x_iret C S hr h dX12_why_20
theorem dX12_timeOf_0 : decode cX12_timeOf 0 = .ok (.aload_n 0, 1) := by decide +kernel
theorem dX12_timeOf_1 : decode cX12_timeOf 1 = .ok (.iconst 0, 1) := by decide +kernel
theorem dX12_timeOf_2 : decode cX12_timeOf 2 = .ok (.putfield 3, 3) := by decide +kernel
theorem dX12_timeOf_5 : decode cX12_timeOf 5 = .ok (.aload_n 0, 1) := by decide +kernel
theorem dX12_timeOf_6 : decode cX12_timeOf 6 = .ok (.iload_n 1, 1) := by decide +kernel
theorem dX12_timeOf_7 : decode cX12_timeOf 7 = .ok (.invokevirtual 198, 3) := by decide +kernel
theorem dX12_timeOf_10 : decode cX12_timeOf 10 = .ok (.ifCond .eq 7, 3) := by decide +kernel
theorem dX12_timeOf_13 : decode cX12_timeOf 13 = .ok (.iconst 0, 1) := by decide +kernel
theorem dX12_timeOf_14 : decode cX12_timeOf 14 = .ok (.goto 8, 3) := by decide +kernel
theorem dX12_timeOf_17 : decode cX12_timeOf 17 = .ok (.aload_n 0, 1) := by decide +kernel
theorem dX12_timeOf_18 : decode cX12_timeOf 18 = .ok (.iload_n 1, 1) := by decide +kernel
theorem dX12_timeOf_19 : decode cX12_timeOf 19 = .ok (.invokevirtual 281, 3) := by decide +kernel
theorem dX12_timeOf_22 : decode cX12_timeOf 22 = .ok (.ireturn, 1) := by decide +kernel
def f_X12_timeOf (N : Nat) (R : Nat → Nat → Nat) (σ : SI) (x0 : Nat) (x1 : Int32) : Option (Int32 × SI) := sq (up σ x0 0 (0 : Int32)) (fun σ1 => bd (f_X12_noBlast N R σ1 x0 x1) (fun a2 σ2 => if a2 = 0 then (bd (f_X12_time N R σ2 x0 x1) (fun a4 σ4 => some (a4, σ4))) else (some ((0 : Int32), σ2))))
set_option maxHeartbeats 4000000 in
set_option maxRecDepth 100000 in
theorem ok_X12_timeOf {l : Launch} {g : GL} {R : Nat → Nat → Nat} {L : Nat → Nat → Int64} {N : Nat} {σ : SI} {x0 : Nat} {x1 : Int32} {r : (Int32 × SI)} (h : f_X12_timeOf N R σ x0 x1 = some r) (hSh : ShR R) (hx0 : Ok 194 x0 12) : Ct l g 3 yX12_timeOf cX12_timeOf 2 (some .int) 194 194 0 0 [.ref (gb g + x0), .int x1] (mkS σ R L) (PI R L r) := by
  refine Met.ofW (cc := cX12_timeOf) (maxL := 2) (ret := (some .int)) (by decide) rfl ?_
  intro p e s m args below meth c s₁ B hml hv
  obtain ⟨rfl, hE, hLo, hWd⟩ := hv
  have hr : meth.sig.returnType = (some .int) := B.returns
  have C : Cx l g p s m meth c cX12_timeOf 2 RX12 := ⟨B.exec, B.bytes, hml, findClass_of_methodNamed B.named, hE, hLo, B.notSynchronized⟩
  have S : S2 g s σ R L s.heap [] := ⟨hWd, va_S.rf⟩
  have hx := C.1
  have hb := C.2.1
  have hl := lv_entry ([.ref (gb g + x0), .int x1]) (n := 2) (Nat.le_of_ble_eq_true rfl)
  rw [lg_entry_eq]
  generalize (lg_sl ([.ref (gb g + x0), .int x1]) ++ List.replicate (2 - (lg_sl ([.ref (gb g + x0), .int x1])).length) Slot.unset).toArray = ls at hl ⊢
  have hl : lv_has ls 2 [(0, .ref (gb g + x0)), (1, .int x1)] := hl
  generalize hH : s.heap = H at S ⊢
  generalize hlc : ([] : List Loc) = locs at S ⊢
  rw [f_X12_timeOf] at h
  refine lv_aload_n hx hb dX12_timeOf_0 rfl (lv_at hl 0 rfl) ?_
  refine lv_iconst (v := (0 : Int32)) hx hb dX12_timeOf_1 (by decide) ?_
  obtain ⟨σ1, hs1, h⟩ := sq_el h
  refine x_putI C S KX12 hx0 0 (by decide) rfl rfl rfl ⟨rfl, rfl⟩ fl_RX12_3 dX12_timeOf_2 hs1 (fun H locs S => ?_)
  refine lv_aload_n hx hb dX12_timeOf_5 rfl (lv_at hl 0 rfl) ?_
  refine lv_iload_n hx hb dX12_timeOf_6 rfl (lv_at hl 1 rfl) ?_
  obtain ⟨a2, σ2, hc2, h⟩ := bd_el h
  refine x_callVI C S KX12 hx0 (ok_X12_noBlast (L := L) hc2 hSh hx0) ⟨cd_X12_noBlast, ni_RX12, ml_RX12_198, in_X12_noBlast, sl_X12_noBlast⟩ ⟨by decide, by decide⟩ rfl ⟨by decide, by decide⟩ hl.1 rfl (Nat.le_of_ble_eq_true rfl) ⟨by decide, by decide⟩ dX12_timeOf_7 (fun H locs S => ?_)
  refine lv_if_eq (tgt := 17) hx hb dX12_timeOf_10 (by decide) (fun c3 => ?_) (fun c3 => ?_)
  · have h := it_p c3 h
    refine lv_aload_n hx hb dX12_timeOf_17 rfl (lv_at hl 0 rfl) ?_
    refine lv_iload_n hx hb dX12_timeOf_18 rfl (lv_at hl 1 rfl) ?_
    obtain ⟨a4, σ4, hc4, h⟩ := bd_el h
    refine x_callVI C S KX12 hx0 (ok_X12_time (L := L) hc4 hSh hx0) ⟨cd_X12_time, ni_RX12, ml_RX12_281, in_X12_time, sl_X12_time⟩ ⟨by decide, by decide⟩ rfl ⟨by decide, by decide⟩ hl.1 rfl (Nat.le_of_ble_eq_true rfl) ⟨by decide, by decide⟩ dX12_timeOf_19 (fun H locs S => ?_)
    exact x_iret C S hr h dX12_timeOf_22
  · have h := it_n c3 h
    refine lv_iconst (v := (0 : Int32)) hx hb dX12_timeOf_13 (by decide) ?_
    refine lv_goto (tgt := 22) hx hb dX12_timeOf_14 (by decide) ?_
    exact x_iret C S hr h dX12_timeOf_22
theorem dX12_isFired_0 : decode cX12_isFired 0 = .ok (.aload_n 0, 1) := by decide +kernel
theorem dX12_isFired_1 : decode cX12_isFired 1 = .ok (.iconst 0, 1) := by decide +kernel
theorem dX12_isFired_2 : decode cX12_isFired 2 = .ok (.putfield 3, 3) := by decide +kernel
theorem dX12_isFired_5 : decode cX12_isFired 5 = .ok (.aload_n 0, 1) := by decide +kernel
theorem dX12_isFired_6 : decode cX12_isFired 6 = .ok (.iload_n 1, 1) := by decide +kernel
theorem dX12_isFired_7 : decode cX12_isFired 7 = .ok (.invokevirtual 198, 3) := by decide +kernel
theorem dX12_isFired_10 : decode cX12_isFired 10 = .ok (.ifCond .ne 15, 3) := by decide +kernel
theorem dX12_isFired_13 : decode cX12_isFired 13 = .ok (.aload_n 0, 1) := by decide +kernel
theorem dX12_isFired_14 : decode cX12_isFired 14 = .ok (.iload_n 1, 1) := by decide +kernel
theorem dX12_isFired_15 : decode cX12_isFired 15 = .ok (.invokevirtual 293, 3) := by decide +kernel
theorem dX12_isFired_18 : decode cX12_isFired 18 = .ok (.ifCond .eq 7, 3) := by decide +kernel
theorem dX12_isFired_21 : decode cX12_isFired 21 = .ok (.iconst 1, 1) := by decide +kernel
theorem dX12_isFired_22 : decode cX12_isFired 22 = .ok (.goto 4, 3) := by decide +kernel
theorem dX12_isFired_25 : decode cX12_isFired 25 = .ok (.iconst 0, 1) := by decide +kernel
theorem dX12_isFired_26 : decode cX12_isFired 26 = .ok (.ireturn, 1) := by decide +kernel
def f_X12_isFired (N : Nat) (R : Nat → Nat → Nat) (σ : SI) (x0 : Nat) (x1 : Int32) : Option (Int32 × SI) := sq (up σ x0 0 (0 : Int32)) (fun σ1 => bd (f_X12_noBlast N R σ1 x0 x1) (fun a2 σ2 => if a2 = 0 then (bd (f_X12_hasFired N R σ2 x0 x1) (fun a4 σ4 => if a4 = 0 then (some ((0 : Int32), σ4)) else (some ((1 : Int32), σ4)))) else (some ((0 : Int32), σ2))))
set_option maxHeartbeats 4000000 in
set_option maxRecDepth 100000 in
theorem ok_X12_isFired {l : Launch} {g : GL} {R : Nat → Nat → Nat} {L : Nat → Nat → Int64} {N : Nat} {σ : SI} {x0 : Nat} {x1 : Int32} {r : (Int32 × SI)} (h : f_X12_isFired N R σ x0 x1 = some r) (hSh : ShR R) (hx0 : Ok 194 x0 12) : Ct l g 3 yX12_isFired cX12_isFired 2 (some .boolean) 194 194 0 0 [.ref (gb g + x0), .int x1] (mkS σ R L) (PI R L r) := by
  refine Met.ofW (cc := cX12_isFired) (maxL := 2) (ret := (some .boolean)) (by decide) rfl ?_
  intro p e s m args below meth c s₁ B hml hv
  obtain ⟨rfl, hE, hLo, hWd⟩ := hv
  have hr : meth.sig.returnType = (some .boolean) := B.returns
  have C : Cx l g p s m meth c cX12_isFired 2 RX12 := ⟨B.exec, B.bytes, hml, findClass_of_methodNamed B.named, hE, hLo, B.notSynchronized⟩
  have S : S2 g s σ R L s.heap [] := ⟨hWd, va_S.rf⟩
  have hx := C.1
  have hb := C.2.1
  have hl := lv_entry ([.ref (gb g + x0), .int x1]) (n := 2) (Nat.le_of_ble_eq_true rfl)
  rw [lg_entry_eq]
  generalize (lg_sl ([.ref (gb g + x0), .int x1]) ++ List.replicate (2 - (lg_sl ([.ref (gb g + x0), .int x1])).length) Slot.unset).toArray = ls at hl ⊢
  have hl : lv_has ls 2 [(0, .ref (gb g + x0)), (1, .int x1)] := hl
  generalize hH : s.heap = H at S ⊢
  generalize hlc : ([] : List Loc) = locs at S ⊢
  rw [f_X12_isFired] at h
  refine lv_aload_n hx hb dX12_isFired_0 rfl (lv_at hl 0 rfl) ?_
  refine lv_iconst (v := (0 : Int32)) hx hb dX12_isFired_1 (by decide) ?_
  obtain ⟨σ1, hs1, h⟩ := sq_el h
  refine x_putI C S KX12 hx0 0 (by decide) rfl rfl rfl ⟨rfl, rfl⟩ fl_RX12_3 dX12_isFired_2 hs1 (fun H locs S => ?_)
  refine lv_aload_n hx hb dX12_isFired_5 rfl (lv_at hl 0 rfl) ?_
  refine lv_iload_n hx hb dX12_isFired_6 rfl (lv_at hl 1 rfl) ?_
  obtain ⟨a2, σ2, hc2, h⟩ := bd_el h
  refine x_callVI C S KX12 hx0 (ok_X12_noBlast (L := L) hc2 hSh hx0) ⟨cd_X12_noBlast, ni_RX12, ml_RX12_198, in_X12_noBlast, sl_X12_noBlast⟩ ⟨by decide, by decide⟩ rfl ⟨by decide, by decide⟩ hl.1 rfl (Nat.le_of_ble_eq_true rfl) ⟨by decide, by decide⟩ dX12_isFired_7 (fun H locs S => ?_)
  refine lv_if_ne (tgt := 25) hx hb dX12_isFired_10 (by decide) (fun c3 => ?_) (fun c3 => ?_)
  · have h := it_n c3 h
    refine lv_iconst (v := (0 : Int32)) hx hb dX12_isFired_25 (by decide) ?_
    exact x_zret C S hr (by decide) h dX12_isFired_26
  · have h := it_p c3 h
    refine lv_aload_n hx hb dX12_isFired_13 rfl (lv_at hl 0 rfl) ?_
    refine lv_iload_n hx hb dX12_isFired_14 rfl (lv_at hl 1 rfl) ?_
    obtain ⟨a4, σ4, hc4, h⟩ := bd_el h
    refine x_callVI C S KX12 hx0 (ok_X12_hasFired (L := L) hc4 hSh hx0) ⟨cd_X12_hasFired, ni_RX12, ml_RX12_293, in_X12_hasFired, sl_X12_hasFired⟩ ⟨by decide, by decide⟩ rfl ⟨by decide, by decide⟩ hl.1 rfl (Nat.le_of_ble_eq_true rfl) ⟨by decide, by decide⟩ dX12_isFired_15 (fun H locs S => ?_)
    refine lv_if_eq (tgt := 25) hx hb dX12_isFired_18 (by decide) (fun c5 => ?_) (fun c5 => ?_)
    · have h := it_p c5 h
      refine lv_iconst (v := (0 : Int32)) hx hb dX12_isFired_25 (by decide) ?_
      exact x_zret C S hr (by decide) h dX12_isFired_26
    · have h := it_n c5 h
      refine lv_iconst (v := (1 : Int32)) hx hb dX12_isFired_21 (by decide) ?_
      refine lv_goto (tgt := 26) hx hb dX12_isFired_22 (by decide) ?_
      exact x_zret C S hr (by decide) h dX12_isFired_26
theorem dX12_noMinute_0 : decode cX12_noMinute 0 = .ok (.aload_n 0, 1) := by decide +kernel
theorem dX12_noMinute_1 : decode cX12_noMinute 1 = .ok (.iload_n 1, 1) := by decide +kernel
theorem dX12_noMinute_2 : decode cX12_noMinute 2 = .ok (.iconst 0, 1) := by decide +kernel
theorem dX12_noMinute_3 : decode cX12_noMinute 3 = .ok (.sipush 1439, 3) := by decide +kernel
theorem dX12_noMinute_6 : decode cX12_noMinute 6 = .ok (.invokestatic 71, 3) := by decide +kernel
theorem dX12_noMinute_9 : decode cX12_noMinute 9 = .ok (.ifCond .ne 7, 3) := by decide +kernel
theorem dX12_noMinute_12 : decode cX12_noMinute 12 = .ok (.iconst 1, 1) := by decide +kernel
theorem dX12_noMinute_13 : decode cX12_noMinute 13 = .ok (.goto 4, 3) := by decide +kernel
theorem dX12_noMinute_16 : decode cX12_noMinute 16 = .ok (.iconst 0, 1) := by decide +kernel
theorem dX12_noMinute_17 : decode cX12_noMinute 17 = .ok (.iconst 2, 1) := by decide +kernel
theorem dX12_noMinute_18 : decode cX12_noMinute 18 = .ok (.invokevirtual 185, 3) := by decide +kernel
theorem dX12_noMinute_21 : decode cX12_noMinute 21 = .ok (.ireturn, 1) := by decide +kernel
def f_X12_noMinute (N : Nat) (R : Nat → Nat → Nat) (σ : SI) (x0 : Nat) (x1 : Int32) : Option (Int32 × SI) := bd (f_X12_in N R σ x1 (0 : Int32) (1439 : Int32)) (fun a1 σ1 => if a1 = 0 then (bd (f_X12_throwsIf N R σ1 x0 (1 : Int32) (2 : Int32)) (fun a5 σ5 => cb a5 (some (a5, σ5)))) else (bd (f_X12_throwsIf N R σ1 x0 (0 : Int32) (2 : Int32)) (fun a3 σ3 => cb a3 (some (a3, σ3)))))
set_option maxHeartbeats 4000000 in
set_option maxRecDepth 100000 in
theorem ok_X12_noMinute {l : Launch} {g : GL} {R : Nat → Nat → Nat} {L : Nat → Nat → Int64} {N : Nat} {σ : SI} {x0 : Nat} {x1 : Int32} {r : (Int32 × SI)} (h : f_X12_noMinute N R σ x0 x1 = some r) (hSh : ShR R) (hx0 : Ok 194 x0 12) : Ct l g 2 yX12_noMinute cX12_noMinute 2 (some .boolean) 194 194 0 0 [.ref (gb g + x0), .int x1] (mkS σ R L) (PI R L r) := by
  refine Met.ofW (cc := cX12_noMinute) (maxL := 2) (ret := (some .boolean)) (by decide) rfl ?_
  intro p e s m args below meth c s₁ B hml hv
  obtain ⟨rfl, hE, hLo, hWd⟩ := hv
  have hr : meth.sig.returnType = (some .boolean) := B.returns
  have C : Cx l g p s m meth c cX12_noMinute 2 RX12 := ⟨B.exec, B.bytes, hml, findClass_of_methodNamed B.named, hE, hLo, B.notSynchronized⟩
  have S : S2 g s σ R L s.heap [] := ⟨hWd, va_S.rf⟩
  have hx := C.1
  have hb := C.2.1
  have hl := lv_entry ([.ref (gb g + x0), .int x1]) (n := 2) (Nat.le_of_ble_eq_true rfl)
  rw [lg_entry_eq]
  generalize (lg_sl ([.ref (gb g + x0), .int x1]) ++ List.replicate (2 - (lg_sl ([.ref (gb g + x0), .int x1])).length) Slot.unset).toArray = ls at hl ⊢
  have hl : lv_has ls 2 [(0, .ref (gb g + x0)), (1, .int x1)] := hl
  generalize hH : s.heap = H at S ⊢
  generalize hlc : ([] : List Loc) = locs at S ⊢
  rw [f_X12_noMinute] at h
  refine lv_aload_n hx hb dX12_noMinute_0 rfl (lv_at hl 0 rfl) ?_
  refine lv_iload_n hx hb dX12_noMinute_1 rfl (lv_at hl 1 rfl) ?_
  refine lv_iconst (v := (0 : Int32)) hx hb dX12_noMinute_2 (by decide) ?_
  refine lv_sipush (v := (1439 : Int32)) hx hb dX12_noMinute_3 (by decide) ?_
  obtain ⟨a1, σ1, hc1, h⟩ := bd_el h
  refine x_callSI C S (ok_X12_in (L := L) hc1 hSh) ⟨cd_X12_in, ni_RX12, ml_RX12_71, st_X12_in⟩ ⟨by decide, by decide⟩ rfl ⟨by decide, by decide⟩ hl.1 rfl (Nat.le_of_ble_eq_true rfl) ⟨by decide, by decide⟩ dX12_noMinute_6 (fun H locs S => ?_)
  refine lv_if_ne (tgt := 16) hx hb dX12_noMinute_9 (by decide) (fun c2 => ?_) (fun c2 => ?_)
  · have h := it_n c2 h
    refine lv_iconst (v := (0 : Int32)) hx hb dX12_noMinute_16 (by decide) ?_
    refine lv_iconst (v := (2 : Int32)) hx hb dX12_noMinute_17 (by decide) ?_
    obtain ⟨a3, σ3, hc3, h⟩ := bd_el h
    refine x_callVI C S KX12 hx0 (ok_X12_throwsIf (L := L) hc3 hSh hx0) ⟨cd_X12_throwsIf, ni_RX12, ml_RX12_185, in_X12_throwsIf, sl_X12_throwsIf⟩ ⟨by decide, by decide⟩ rfl ⟨by decide, by decide⟩ hl.1 rfl (Nat.le_of_ble_eq_true rfl) ⟨by decide, by decide⟩ dX12_noMinute_18 (fun H locs S => ?_)
    obtain ⟨hb4, h⟩ := cb_el h
    exact x_zret C S hr hb4 h dX12_noMinute_21
  · have h := it_p c2 h
    refine lv_iconst (v := (1 : Int32)) hx hb dX12_noMinute_12 (by decide) ?_
    refine lv_goto (tgt := 17) hx hb dX12_noMinute_13 (by decide) ?_
    refine lv_iconst (v := (2 : Int32)) hx hb dX12_noMinute_17 (by decide) ?_
    obtain ⟨a5, σ5, hc5, h⟩ := bd_el h
    refine x_callVI C S KX12 hx0 (ok_X12_throwsIf (L := L) hc5 hSh hx0) ⟨cd_X12_throwsIf, ni_RX12, ml_RX12_185, in_X12_throwsIf, sl_X12_throwsIf⟩ ⟨by decide, by decide⟩ rfl ⟨by decide, by decide⟩ hl.1 rfl (Nat.le_of_ble_eq_true rfl) ⟨by decide, by decide⟩ dX12_noMinute_18 (fun H locs S => ?_)
    obtain ⟨hb6, h⟩ := cb_el h
    exact x_zret C S hr hb6 h dX12_noMinute_21
theorem dX12_reason_0 : decode cX12_reason 0 = .ok (.aload_n 0, 1) := by decide +kernel
theorem dX12_reason_1 : decode cX12_reason 1 = .ok (.iconst 0, 1) := by decide +kernel
theorem dX12_reason_2 : decode cX12_reason 2 = .ok (.putfield 3, 3) := by decide +kernel
theorem dX12_reason_5 : decode cX12_reason 5 = .ok (.aload_n 0, 1) := by decide +kernel
theorem dX12_reason_6 : decode cX12_reason 6 = .ok (.iload_n 1, 1) := by decide +kernel
theorem dX12_reason_7 : decode cX12_reason 7 = .ok (.invokevirtual 198, 3) := by decide +kernel
theorem dX12_reason_10 : decode cX12_reason 10 = .ok (.ifCond .ne 11, 3) := by decide +kernel
theorem dX12_reason_13 : decode cX12_reason 13 = .ok (.aload_n 0, 1) := by decide +kernel
theorem dX12_reason_14 : decode cX12_reason 14 = .ok (.iload_n 2, 1) := by decide +kernel
theorem dX12_reason_15 : decode cX12_reason 15 = .ok (.invokevirtual 296, 3) := by decide +kernel
theorem dX12_reason_18 : decode cX12_reason 18 = .ok (.ifCond .eq 7, 3) := by decide +kernel
theorem dX12_reason_21 : decode cX12_reason 21 = .ok (.iconst 0, 1) := by decide +kernel
theorem dX12_reason_22 : decode cX12_reason 22 = .ok (.goto 9, 3) := by decide +kernel
theorem dX12_reason_25 : decode cX12_reason 25 = .ok (.aload_n 0, 1) := by decide +kernel
theorem dX12_reason_26 : decode cX12_reason 26 = .ok (.iload_n 1, 1) := by decide +kernel
theorem dX12_reason_27 : decode cX12_reason 27 = .ok (.iload_n 2, 1) := by decide +kernel
theorem dX12_reason_28 : decode cX12_reason 28 = .ok (.invokevirtual 299, 3) := by decide +kernel
theorem dX12_reason_31 : decode cX12_reason 31 = .ok (.ireturn, 1) := by decide +kernel
def f_X12_reason_21 (N : Nat) (R : Nat → Nat → Nat) (σ : SI) : Option (Int32 × SI) := some ((0 : Int32), σ)
def f_X12_reason (N : Nat) (R : Nat → Nat → Nat) (σ : SI) (x0 : Nat) (x1 : Int32) (x2 : Int32) : Option (Int32 × SI) := sq (up σ x0 0 (0 : Int32)) (fun σ1 => bd (f_X12_noBlast N R σ1 x0 x1) (fun a2 σ2 => if a2 = 0 then (bd (f_X12_noMinute N R σ2 x0 x2) (fun a4 σ4 => if a4 = 0 then (bd (f_X12_why N R σ4 x0 x1 x2) (fun a6 σ6 => some (a6, σ6))) else (f_X12_reason_21 N R σ4))) else (f_X12_reason_21 N R σ2)))
set_option maxHeartbeats 4000000 in
set_option maxRecDepth 100000 in
theorem w_X12_reason_21 {l : Launch} {g : GL} {p : Program} {e : Jvm.Env} {s : State} {m : MethodId} {args : Array Value} {below : List Frame} {meth : Method} {c : Code} {R : Nat → Nat → Nat} {L : Nat → Nat → Int64} {r : (Int32 × SI)} {N : Nat} (C : Cx l g p s m meth c cX12_reason 3 RX12) (hr : meth.sig.returnType = (some .int)) (hSh : ShR R) : ∀ (σ : SI), f_X12_reason_21 N R σ = some r → ∀ (H : Heap) (locs : List Loc) (ls : Array Slot), S2 g s σ R L H locs → lv_has ls 3 [] → W p l e (rmd 9 0 0) s m args below meth c H locs 0 0 (MQ below (Qg g 194 (PI R L r)) args s 0 0 (gA g)) (F0 m 21 ls []) := by
  have hx := C.1
  have hb := C.2.1
  intro σ h H locs ls S hl
  rw [f_X12_reason_21] at h
  refine lv_iconst (v := (0 : Int32)) hx hb dX12_reason_21 (by decide) ?_
  refine lv_goto (tgt := 31) hx hb dX12_reason_22 (by decide) ?_
  exact x_iret C S hr h dX12_reason_31
set_option maxHeartbeats 4000000 in
set_option maxRecDepth 100000 in
theorem ok_X12_reason {l : Launch} {g : GL} {R : Nat → Nat → Nat} {L : Nat → Nat → Int64} {N : Nat} {σ : SI} {x0 : Nat} {x1 : Int32} {x2 : Int32} {r : (Int32 × SI)} (h : f_X12_reason N R σ x0 x1 x2 = some r) (hSh : ShR R) (hx0 : Ok 194 x0 12) : Ct l g 9 yX12_reason cX12_reason 3 (some .int) 194 194 0 0 [.ref (gb g + x0), .int x1, .int x2] (mkS σ R L) (PI R L r) := by
  refine Met.ofW (cc := cX12_reason) (maxL := 3) (ret := (some .int)) (by decide) rfl ?_
  intro p e s m args below meth c s₁ B hml hv
  obtain ⟨rfl, hE, hLo, hWd⟩ := hv
  have hr : meth.sig.returnType = (some .int) := B.returns
  have C : Cx l g p s m meth c cX12_reason 3 RX12 := ⟨B.exec, B.bytes, hml, findClass_of_methodNamed B.named, hE, hLo, B.notSynchronized⟩
  have S : S2 g s σ R L s.heap [] := ⟨hWd, va_S.rf⟩
  have hx := C.1
  have hb := C.2.1
  have hl := lv_entry ([.ref (gb g + x0), .int x1, .int x2]) (n := 3) (Nat.le_of_ble_eq_true rfl)
  rw [lg_entry_eq]
  generalize (lg_sl ([.ref (gb g + x0), .int x1, .int x2]) ++ List.replicate (3 - (lg_sl ([.ref (gb g + x0), .int x1, .int x2])).length) Slot.unset).toArray = ls at hl ⊢
  have hl : lv_has ls 3 [(0, .ref (gb g + x0)), (1, .int x1), (2, .int x2)] := hl
  generalize hH : s.heap = H at S ⊢
  generalize hlc : ([] : List Loc) = locs at S ⊢
  rw [f_X12_reason] at h
  refine lv_aload_n hx hb dX12_reason_0 rfl (lv_at hl 0 rfl) ?_
  refine lv_iconst (v := (0 : Int32)) hx hb dX12_reason_1 (by decide) ?_
  obtain ⟨σ1, hs1, h⟩ := sq_el h
  refine x_putI C S KX12 hx0 0 (by decide) rfl rfl rfl ⟨rfl, rfl⟩ fl_RX12_3 dX12_reason_2 hs1 (fun H locs S => ?_)
  refine lv_aload_n hx hb dX12_reason_5 rfl (lv_at hl 0 rfl) ?_
  refine lv_iload_n hx hb dX12_reason_6 rfl (lv_at hl 1 rfl) ?_
  obtain ⟨a2, σ2, hc2, h⟩ := bd_el h
  refine x_callVI C S KX12 hx0 (ok_X12_noBlast (L := L) hc2 hSh hx0) ⟨cd_X12_noBlast, ni_RX12, ml_RX12_198, in_X12_noBlast, sl_X12_noBlast⟩ ⟨by decide, by decide⟩ rfl ⟨by decide, by decide⟩ hl.1 rfl (Nat.le_of_ble_eq_true rfl) ⟨by decide, by decide⟩ dX12_reason_7 (fun H locs S => ?_)
  refine lv_if_ne (tgt := 21) hx hb dX12_reason_10 (by decide) (fun c3 => ?_) (fun c3 => ?_)
  · have h := it_n c3 h
    exact w_X12_reason_21 C hr hSh σ2 h H locs ls S (lv_sub hl [] rfl)
  · have h := it_p c3 h
    refine lv_aload_n hx hb dX12_reason_13 rfl (lv_at hl 0 rfl) ?_
    refine lv_iload_n hx hb dX12_reason_14 rfl (lv_at hl 2 rfl) ?_
    obtain ⟨a4, σ4, hc4, h⟩ := bd_el h
    refine x_callVI C S KX12 hx0 (ok_X12_noMinute (L := L) hc4 hSh hx0) ⟨cd_X12_noMinute, ni_RX12, ml_RX12_296, in_X12_noMinute, sl_X12_noMinute⟩ ⟨by decide, by decide⟩ rfl ⟨by decide, by decide⟩ hl.1 rfl (Nat.le_of_ble_eq_true rfl) ⟨by decide, by decide⟩ dX12_reason_15 (fun H locs S => ?_)
    refine lv_if_eq (tgt := 25) hx hb dX12_reason_18 (by decide) (fun c5 => ?_) (fun c5 => ?_)
    · have h := it_p c5 h
      refine lv_aload_n hx hb dX12_reason_25 rfl (lv_at hl 0 rfl) ?_
      refine lv_iload_n hx hb dX12_reason_26 rfl (lv_at hl 1 rfl) ?_
      refine lv_iload_n hx hb dX12_reason_27 rfl (lv_at hl 2 rfl) ?_
      obtain ⟨a6, σ6, hc6, h⟩ := bd_el h
      refine x_callVI C S KX12 hx0 (ok_X12_why (L := L) hc6 hSh hx0) ⟨cd_X12_why, ni_RX12, ml_RX12_299, in_X12_why, sl_X12_why⟩ ⟨by decide, by decide⟩ rfl ⟨by decide, by decide⟩ hl.1 rfl (Nat.le_of_ble_eq_true rfl) ⟨by decide, by decide⟩ dX12_reason_28 (fun H locs S => ?_)
      exact x_iret C S hr h dX12_reason_31
    · have h := it_n c5 h
      exact w_X12_reason_21 C hr hSh σ4 h H locs ls S (lv_sub hl [] rfl)
theorem dX12_earliest_0 : decode cX12_earliest 0 = .ok (.aload_n 0, 1) := by decide +kernel
theorem dX12_earliest_1 : decode cX12_earliest 1 = .ok (.iconst 0, 1) := by decide +kernel
theorem dX12_earliest_2 : decode cX12_earliest 2 = .ok (.putfield 3, 3) := by decide +kernel
theorem dX12_earliest_5 : decode cX12_earliest 5 = .ok (.aload_n 0, 1) := by decide +kernel
theorem dX12_earliest_6 : decode cX12_earliest 6 = .ok (.iload_n 1, 1) := by decide +kernel
theorem dX12_earliest_7 : decode cX12_earliest 7 = .ok (.invokevirtual 198, 3) := by decide +kernel
theorem dX12_earliest_10 : decode cX12_earliest 10 = .ok (.ifCond .ne 11, 3) := by decide +kernel
theorem dX12_earliest_13 : decode cX12_earliest 13 = .ok (.aload_n 0, 1) := by decide +kernel
theorem dX12_earliest_14 : decode cX12_earliest 14 = .ok (.iload_n 2, 1) := by decide +kernel
theorem dX12_earliest_15 : decode cX12_earliest 15 = .ok (.invokevirtual 296, 3) := by decide +kernel
theorem dX12_earliest_18 : decode cX12_earliest 18 = .ok (.ifCond .eq 5, 3) := by decide +kernel
theorem dX12_earliest_21 : decode cX12_earliest 21 = .ok (.iconst 0, 1) := by decide +kernel
theorem dX12_earliest_22 : decode cX12_earliest 22 = .ok (.ireturn, 1) := by decide +kernel
theorem dX12_earliest_23 : decode cX12_earliest 23 = .ok (.iconst 0, 1) := by decide +kernel
theorem dX12_earliest_24 : decode cX12_earliest 24 = .ok (.istore_n 3, 1) := by decide +kernel
theorem dX12_earliest_25 : decode cX12_earliest 25 = .ok (.iload_n 3, 1) := by decide +kernel
theorem dX12_earliest_26 : decode cX12_earliest 26 = .ok (.aload_n 0, 1) := by decide +kernel
theorem dX12_earliest_27 : decode cX12_earliest 27 = .ok (.invokevirtual 195, 3) := by decide +kernel
theorem dX12_earliest_30 : decode cX12_earliest 30 = .ok (.if_icmp .ge 37, 3) := by decide +kernel
theorem dX12_earliest_33 : decode cX12_earliest 33 = .ok (.aload_n 0, 1) := by decide +kernel
theorem dX12_earliest_34 : decode cX12_earliest 34 = .ok (.iload_n 3, 1) := by decide +kernel
theorem dX12_earliest_35 : decode cX12_earliest 35 = .ok (.invokevirtual 302, 3) := by decide +kernel
theorem dX12_earliest_38 : decode cX12_earliest 38 = .ok (.iload_n 2, 1) := by decide +kernel
theorem dX12_earliest_39 : decode cX12_earliest 39 = .ok (.if_icmp .lt 22, 3) := by decide +kernel
theorem dX12_earliest_42 : decode cX12_earliest 42 = .ok (.aload_n 0, 1) := by decide +kernel
theorem dX12_earliest_43 : decode cX12_earliest 43 = .ok (.iload_n 1, 1) := by decide +kernel
theorem dX12_earliest_44 : decode cX12_earliest 44 = .ok (.aload_n 0, 1) := by decide +kernel
theorem dX12_earliest_45 : decode cX12_earliest 45 = .ok (.iload_n 3, 1) := by decide +kernel
theorem dX12_earliest_46 : decode cX12_earliest 46 = .ok (.invokevirtual 302, 3) := by decide +kernel
theorem dX12_earliest_49 : decode cX12_earliest 49 = .ok (.invokevirtual 299, 3) := by decide +kernel
theorem dX12_earliest_52 : decode cX12_earliest 52 = .ok (.ifCond .ne 9, 3) := by decide +kernel
theorem dX12_earliest_55 : decode cX12_earliest 55 = .ok (.aload_n 0, 1) := by decide +kernel
theorem dX12_earliest_56 : decode cX12_earliest 56 = .ok (.iload_n 3, 1) := by decide +kernel
theorem dX12_earliest_57 : decode cX12_earliest 57 = .ok (.invokevirtual 302, 3) := by decide +kernel
theorem dX12_earliest_60 : decode cX12_earliest 60 = .ok (.ireturn, 1) := by decide +kernel
theorem dX12_earliest_61 : decode cX12_earliest 61 = .ok (.iinc 3 1, 3) := by decide +kernel
theorem dX12_earliest_64 : decode cX12_earliest 64 = .ok (.goto (-39), 3) := by decide +kernel
theorem dX12_earliest_67 : decode cX12_earliest 67 = .ok (.iconst (-1), 1) := by decide +kernel
theorem dX12_earliest_68 : decode cX12_earliest 68 = .ok (.ireturn, 1) := by decide +kernel
def f_X12_earliest_61 (N : Nat) (R : Nat → Nat → Nat) (k25 : SI → Nat → Int32 → Int32 → Int32 → Option (Int32 × SI)) (σ : SI) (x0 : Nat) (x1 : Int32) (x2 : Int32) (x3 : Int32) : Option (Int32 × SI) := k25 σ x0 x1 x2 (x3 + 1)
def f_X12_earliest_25 (N : Nat) (R : Nat → Nat → Nat) : Nat → SI → Nat → Int32 → Int32 → Int32 → Option (Int32 × SI)
  | 0, _, _, _, _, _ => none
  | n + 1, σ, x0, x1, x2, x3 => bd (f_X12_starts N R σ x0) (fun a6 σ6 => if a6 ≤ x3 then (some ((-1 : Int32), σ6)) else (bd (f_X12_startAt N R σ6 x0 x3) (fun a8 σ8 => if a8 < x2 then (f_X12_earliest_61 N R (fun σ x0 x1 x2 x3 => f_X12_earliest_25 N R n σ x0 x1 x2 x3) σ8 x0 x1 x2 x3) else (bd (f_X12_startAt N R σ8 x0 x3) (fun a10 σ10 => bd (f_X12_why N R σ10 x0 x1 a10) (fun a11 σ11 => if a11 = 0 then (bd (f_X12_startAt N R σ11 x0 x3) (fun a13 σ13 => some (a13, σ13))) else (f_X12_earliest_61 N R (fun σ x0 x1 x2 x3 => f_X12_earliest_25 N R n σ x0 x1 x2 x3) σ11 x0 x1 x2 x3)))))))
def f_X12_earliest (N : Nat) (R : Nat → Nat → Nat) (σ : SI) (x0 : Nat) (x1 : Int32) (x2 : Int32) : Option (Int32 × SI) := sq (up σ x0 0 (0 : Int32)) (fun σ1 => bd (f_X12_noBlast N R σ1 x0 x1) (fun a2 σ2 => if a2 = 0 then (bd (f_X12_noMinute N R σ2 x0 x2) (fun a4 σ4 => if a4 = 0 then (f_X12_earliest_25 N R N σ4 x0 x1 x2 (0 : Int32)) else (some ((0 : Int32), σ4)))) else (some ((0 : Int32), σ2))))
set_option maxHeartbeats 4000000 in
set_option maxRecDepth 100000 in
theorem w_X12_earliest_61 {l : Launch} {g : GL} {p : Program} {e : Jvm.Env} {s : State} {m : MethodId} {args : Array Value} {below : List Frame} {meth : Method} {c : Code} {R : Nat → Nat → Nat} {L : Nat → Nat → Int64} {r : (Int32 × SI)} {N : Nat} {k25 : SI → Nat → Int32 → Int32 → Int32 → Option (Int32 × SI)} (C : Cx l g p s m meth c cX12_earliest 4 RX12) (hr : meth.sig.returnType = (some .int)) (hSh : ShR R) (hk25 : ∀ (σ : SI) (x0 : Nat) (x1 : Int32) (x2 : Int32) (x3 : Int32), k25 σ x0 x1 x2 x3 = some r → Ok 194 x0 12 → ∀ (H : Heap) (locs : List Loc) (ls : Array Slot), S2 g s σ R L H locs → lv_has ls 4 [(0, .ref (gb g + x0)), (1, .int x1), (2, .int x2), (3, .int x3)] → W p l e (rmd 9 0 0) s m args below meth c H locs 0 0 (MQ below (Qg g 194 (PI R L r)) args s 0 0 (gA g)) (F0 m 25 ls [])) : ∀ (σ : SI) (x0 : Nat) (x1 : Int32) (x2 : Int32) (x3 : Int32), f_X12_earliest_61 N R k25 σ x0 x1 x2 x3 = some r → Ok 194 x0 12 → ∀ (H : Heap) (locs : List Loc) (ls : Array Slot), S2 g s σ R L H locs → lv_has ls 4 [(0, .ref (gb g + x0)), (1, .int x1), (2, .int x2), (3, .int x3)] → W p l e (rmd 9 0 0) s m args below meth c H locs 0 0 (MQ below (Qg g 194 (PI R L r)) args s 0 0 (gA g)) (F0 m 61 ls []) := by
  have hx := C.1
  have hb := C.2.1
  intro σ x0 x1 x2 x3 h hx0 H locs ls S hl
  rw [f_X12_earliest_61] at h
  refine lv_iinc (v := x3 + 1) (lv' := [(3, .int (x3 + 1)), (0, .ref (gb g + x0)), (1, .int x1), (2, .int x2)]) hx hb dX12_earliest_61 hl (k := 3) rfl rfl (by decide) rfl (fun ls hl => ?_)
  refine lv_goto (tgt := 25) hx hb dX12_earliest_64 (by decide) ?_
  exact hk25 σ x0 x1 x2 (x3 + 1) h hx0 H locs ls S (lv_sub hl [1, 2, 3, 0] rfl)
set_option maxHeartbeats 4000000 in
set_option maxRecDepth 100000 in
theorem w_X12_earliest_25 {l : Launch} {g : GL} {p : Program} {e : Jvm.Env} {s : State} {m : MethodId} {args : Array Value} {below : List Frame} {meth : Method} {c : Code} {R : Nat → Nat → Nat} {L : Nat → Nat → Int64} {r : (Int32 × SI)} {N : Nat} (C : Cx l g p s m meth c cX12_earliest 4 RX12) (hr : meth.sig.returnType = (some .int)) (hSh : ShR R) : ∀ (n : Nat) (σ : SI) (x0 : Nat) (x1 : Int32) (x2 : Int32) (x3 : Int32), f_X12_earliest_25 N R n σ x0 x1 x2 x3 = some r → Ok 194 x0 12 → ∀ (H : Heap) (locs : List Loc) (ls : Array Slot), S2 g s σ R L H locs → lv_has ls 4 [(0, .ref (gb g + x0)), (1, .int x1), (2, .int x2), (3, .int x3)] → W p l e (rmd 9 0 0) s m args below meth c H locs 0 0 (MQ below (Qg g 194 (PI R L r)) args s 0 0 (gA g)) (F0 m 25 ls []) := by
  have hx := C.1
  have hb := C.2.1
  intro n
  induction n with
  | zero =>
    intro σ x0 x1 x2 x3 h
    cases (show (none : Option (Int32 × SI)) = some r from h)
  | succ n ih =>
    intro σ x0 x1 x2 x3 h hx0 H locs ls S hl
    rw [f_X12_earliest_25] at h
    refine lv_iload_n hx hb dX12_earliest_25 rfl (lv_at hl 3 rfl) ?_
    refine lv_aload_n hx hb dX12_earliest_26 rfl (lv_at hl 0 rfl) ?_
    obtain ⟨a6, σ6, hc6, h⟩ := bd_el h
    refine x_callVI C S KX12 hx0 (ok_X12_starts (L := L) hc6 hSh hx0) ⟨cd_X12_starts, ni_RX12, ml_RX12_195, in_X12_starts, sl_X12_starts⟩ ⟨by decide, by decide⟩ rfl ⟨by decide, by decide⟩ hl.1 rfl (Nat.le_of_ble_eq_true rfl) ⟨by decide, by decide⟩ dX12_earliest_27 (fun H locs S => ?_)
    refine lv_icmp_ge (tgt := 67) hx hb dX12_earliest_30 (by decide) (fun c7 => ?_) (fun c7 => ?_)
    · have h := it_p c7 h
      refine lv_iconst (v := (-1 : Int32)) hx hb dX12_earliest_67 (by decide) ?_
      exact x_iret C S hr h dX12_earliest_68
    · have h := it_n c7 h
      refine lv_aload_n hx hb dX12_earliest_33 rfl (lv_at hl 0 rfl) ?_
      refine lv_iload_n hx hb dX12_earliest_34 rfl (lv_at hl 3 rfl) ?_
      obtain ⟨a8, σ8, hc8, h⟩ := bd_el h
      refine x_callVI C S KX12 hx0 (ok_X12_startAt (L := L) hc8 hSh hx0) ⟨cd_X12_startAt, ni_RX12, ml_RX12_302, in_X12_startAt, sl_X12_startAt⟩ ⟨by decide, by decide⟩ rfl ⟨by decide, by decide⟩ hl.1 rfl (Nat.le_of_ble_eq_true rfl) ⟨by decide, by decide⟩ dX12_earliest_35 (fun H locs S => ?_)
      refine lv_iload_n hx hb dX12_earliest_38 rfl (lv_at hl 2 rfl) ?_
      refine lv_icmp_lt (tgt := 61) hx hb dX12_earliest_39 (by decide) (fun c9 => ?_) (fun c9 => ?_)
      · have h := it_p c9 h
        exact w_X12_earliest_61 C hr hSh ih σ8 x0 x1 x2 x3 h hx0 H locs ls S (lv_sub hl [0, 1, 2, 3] rfl)
      · have h := it_n c9 h
        refine lv_aload_n hx hb dX12_earliest_42 rfl (lv_at hl 0 rfl) ?_
        refine lv_iload_n hx hb dX12_earliest_43 rfl (lv_at hl 1 rfl) ?_
        refine lv_aload_n hx hb dX12_earliest_44 rfl (lv_at hl 0 rfl) ?_
        refine lv_iload_n hx hb dX12_earliest_45 rfl (lv_at hl 3 rfl) ?_
        obtain ⟨a10, σ10, hc10, h⟩ := bd_el h
        refine x_callVI C S KX12 hx0 (ok_X12_startAt (L := L) hc10 hSh hx0) ⟨cd_X12_startAt, ni_RX12, ml_RX12_302, in_X12_startAt, sl_X12_startAt⟩ ⟨by decide, by decide⟩ rfl ⟨by decide, by decide⟩ hl.1 rfl (Nat.le_of_ble_eq_true rfl) ⟨by decide, by decide⟩ dX12_earliest_46 (fun H locs S => ?_)
        obtain ⟨a11, σ11, hc11, h⟩ := bd_el h
        refine x_callVI C S KX12 hx0 (ok_X12_why (L := L) hc11 hSh hx0) ⟨cd_X12_why, ni_RX12, ml_RX12_299, in_X12_why, sl_X12_why⟩ ⟨by decide, by decide⟩ rfl ⟨by decide, by decide⟩ hl.1 rfl (Nat.le_of_ble_eq_true rfl) ⟨by decide, by decide⟩ dX12_earliest_49 (fun H locs S => ?_)
        refine lv_if_ne (tgt := 61) hx hb dX12_earliest_52 (by decide) (fun c12 => ?_) (fun c12 => ?_)
        · have h := it_n c12 h
          exact w_X12_earliest_61 C hr hSh ih σ11 x0 x1 x2 x3 h hx0 H locs ls S (lv_sub hl [0, 1, 2, 3] rfl)
        · have h := it_p c12 h
          refine lv_aload_n hx hb dX12_earliest_55 rfl (lv_at hl 0 rfl) ?_
          refine lv_iload_n hx hb dX12_earliest_56 rfl (lv_at hl 3 rfl) ?_
          obtain ⟨a13, σ13, hc13, h⟩ := bd_el h
          refine x_callVI C S KX12 hx0 (ok_X12_startAt (L := L) hc13 hSh hx0) ⟨cd_X12_startAt, ni_RX12, ml_RX12_302, in_X12_startAt, sl_X12_startAt⟩ ⟨by decide, by decide⟩ rfl ⟨by decide, by decide⟩ hl.1 rfl (Nat.le_of_ble_eq_true rfl) ⟨by decide, by decide⟩ dX12_earliest_57 (fun H locs S => ?_)
          exact x_iret C S hr h dX12_earliest_60
set_option maxHeartbeats 4000000 in
set_option maxRecDepth 100000 in
theorem ok_X12_earliest {l : Launch} {g : GL} {R : Nat → Nat → Nat} {L : Nat → Nat → Int64} {N : Nat} {σ : SI} {x0 : Nat} {x1 : Int32} {x2 : Int32} {r : (Int32 × SI)} (h : f_X12_earliest N R σ x0 x1 x2 = some r) (hSh : ShR R) (hx0 : Ok 194 x0 12) : Ct l g 9 yX12_earliest cX12_earliest 4 (some .int) 194 194 0 0 [.ref (gb g + x0), .int x1, .int x2] (mkS σ R L) (PI R L r) := by
  refine Met.ofW (cc := cX12_earliest) (maxL := 4) (ret := (some .int)) (by decide) rfl ?_
  intro p e s m args below meth c s₁ B hml hv
  obtain ⟨rfl, hE, hLo, hWd⟩ := hv
  have hr : meth.sig.returnType = (some .int) := B.returns
  have C : Cx l g p s m meth c cX12_earliest 4 RX12 := ⟨B.exec, B.bytes, hml, findClass_of_methodNamed B.named, hE, hLo, B.notSynchronized⟩
  have S : S2 g s σ R L s.heap [] := ⟨hWd, va_S.rf⟩
  have hx := C.1
  have hb := C.2.1
  have hl := lv_entry ([.ref (gb g + x0), .int x1, .int x2]) (n := 4) (Nat.le_of_ble_eq_true rfl)
  rw [lg_entry_eq]
  generalize (lg_sl ([.ref (gb g + x0), .int x1, .int x2]) ++ List.replicate (4 - (lg_sl ([.ref (gb g + x0), .int x1, .int x2])).length) Slot.unset).toArray = ls at hl ⊢
  have hl : lv_has ls 4 [(0, .ref (gb g + x0)), (1, .int x1), (2, .int x2)] := hl
  generalize hH : s.heap = H at S ⊢
  generalize hlc : ([] : List Loc) = locs at S ⊢
  rw [f_X12_earliest] at h
  refine lv_aload_n hx hb dX12_earliest_0 rfl (lv_at hl 0 rfl) ?_
  refine lv_iconst (v := (0 : Int32)) hx hb dX12_earliest_1 (by decide) ?_
  obtain ⟨σ1, hs1, h⟩ := sq_el h
  refine x_putI C S KX12 hx0 0 (by decide) rfl rfl rfl ⟨rfl, rfl⟩ fl_RX12_3 dX12_earliest_2 hs1 (fun H locs S => ?_)
  refine lv_aload_n hx hb dX12_earliest_5 rfl (lv_at hl 0 rfl) ?_
  refine lv_iload_n hx hb dX12_earliest_6 rfl (lv_at hl 1 rfl) ?_
  obtain ⟨a2, σ2, hc2, h⟩ := bd_el h
  refine x_callVI C S KX12 hx0 (ok_X12_noBlast (L := L) hc2 hSh hx0) ⟨cd_X12_noBlast, ni_RX12, ml_RX12_198, in_X12_noBlast, sl_X12_noBlast⟩ ⟨by decide, by decide⟩ rfl ⟨by decide, by decide⟩ hl.1 rfl (Nat.le_of_ble_eq_true rfl) ⟨by decide, by decide⟩ dX12_earliest_7 (fun H locs S => ?_)
  refine lv_if_ne (tgt := 21) hx hb dX12_earliest_10 (by decide) (fun c3 => ?_) (fun c3 => ?_)
  · have h := it_n c3 h
    refine lv_iconst (v := (0 : Int32)) hx hb dX12_earliest_21 (by decide) ?_
    exact x_iret C S hr h dX12_earliest_22
  · have h := it_p c3 h
    refine lv_aload_n hx hb dX12_earliest_13 rfl (lv_at hl 0 rfl) ?_
    refine lv_iload_n hx hb dX12_earliest_14 rfl (lv_at hl 2 rfl) ?_
    obtain ⟨a4, σ4, hc4, h⟩ := bd_el h
    refine x_callVI C S KX12 hx0 (ok_X12_noMinute (L := L) hc4 hSh hx0) ⟨cd_X12_noMinute, ni_RX12, ml_RX12_296, in_X12_noMinute, sl_X12_noMinute⟩ ⟨by decide, by decide⟩ rfl ⟨by decide, by decide⟩ hl.1 rfl (Nat.le_of_ble_eq_true rfl) ⟨by decide, by decide⟩ dX12_earliest_15 (fun H locs S => ?_)
    refine lv_if_eq (tgt := 23) hx hb dX12_earliest_18 (by decide) (fun c5 => ?_) (fun c5 => ?_)
    · have h := it_p c5 h
      refine lv_iconst (v := (0 : Int32)) hx hb dX12_earliest_23 (by decide) ?_
      refine lv_istore_n (lv' := [(3, .int (0 : Int32)), (0, .ref (gb g + x0)), (1, .int x1), (2, .int x2)]) hx hb dX12_earliest_24 rfl hl (by decide) rfl (fun ls hl => ?_)
      exact w_X12_earliest_25 C hr hSh N σ4 x0 x1 x2 (0 : Int32) h hx0 H locs ls S (lv_sub hl [1, 2, 3, 0] rfl)
    · have h := it_n c5 h
      refine lv_iconst (v := (0 : Int32)) hx hb dX12_earliest_21 (by decide) ?_
      exact x_iret C S hr h dX12_earliest_22
theorem dX12_latest_0 : decode cX12_latest 0 = .ok (.aload_n 0, 1) := by decide +kernel
theorem dX12_latest_1 : decode cX12_latest 1 = .ok (.iconst 0, 1) := by decide +kernel
theorem dX12_latest_2 : decode cX12_latest 2 = .ok (.putfield 3, 3) := by decide +kernel
theorem dX12_latest_5 : decode cX12_latest 5 = .ok (.aload_n 0, 1) := by decide +kernel
theorem dX12_latest_6 : decode cX12_latest 6 = .ok (.iload_n 1, 1) := by decide +kernel
theorem dX12_latest_7 : decode cX12_latest 7 = .ok (.invokevirtual 198, 3) := by decide +kernel
theorem dX12_latest_10 : decode cX12_latest 10 = .ok (.ifCond .ne 11, 3) := by decide +kernel
theorem dX12_latest_13 : decode cX12_latest 13 = .ok (.aload_n 0, 1) := by decide +kernel
theorem dX12_latest_14 : decode cX12_latest 14 = .ok (.iload_n 2, 1) := by decide +kernel
theorem dX12_latest_15 : decode cX12_latest 15 = .ok (.invokevirtual 296, 3) := by decide +kernel
theorem dX12_latest_18 : decode cX12_latest 18 = .ok (.ifCond .eq 5, 3) := by decide +kernel
theorem dX12_latest_21 : decode cX12_latest 21 = .ok (.iconst 0, 1) := by decide +kernel
theorem dX12_latest_22 : decode cX12_latest 22 = .ok (.ireturn, 1) := by decide +kernel
theorem dX12_latest_23 : decode cX12_latest 23 = .ok (.aload_n 0, 1) := by decide +kernel
theorem dX12_latest_24 : decode cX12_latest 24 = .ok (.invokevirtual 195, 3) := by decide +kernel
theorem dX12_latest_27 : decode cX12_latest 27 = .ok (.iconst 1, 1) := by decide +kernel
theorem dX12_latest_28 : decode cX12_latest 28 = .ok (.isub, 1) := by decide +kernel
theorem dX12_latest_29 : decode cX12_latest 29 = .ok (.istore_n 3, 1) := by decide +kernel
theorem dX12_latest_30 : decode cX12_latest 30 = .ok (.iload_n 3, 1) := by decide +kernel
theorem dX12_latest_31 : decode cX12_latest 31 = .ok (.ifCond .lt 37, 3) := by decide +kernel
theorem dX12_latest_34 : decode cX12_latest 34 = .ok (.aload_n 0, 1) := by decide +kernel
theorem dX12_latest_35 : decode cX12_latest 35 = .ok (.iload_n 3, 1) := by decide +kernel
theorem dX12_latest_36 : decode cX12_latest 36 = .ok (.invokevirtual 302, 3) := by decide +kernel
theorem dX12_latest_39 : decode cX12_latest 39 = .ok (.iload_n 2, 1) := by decide +kernel
theorem dX12_latest_40 : decode cX12_latest 40 = .ok (.if_icmp .gt 22, 3) := by decide +kernel
theorem dX12_latest_43 : decode cX12_latest 43 = .ok (.aload_n 0, 1) := by decide +kernel
theorem dX12_latest_44 : decode cX12_latest 44 = .ok (.iload_n 1, 1) := by decide +kernel
theorem dX12_latest_45 : decode cX12_latest 45 = .ok (.aload_n 0, 1) := by decide +kernel
theorem dX12_latest_46 : decode cX12_latest 46 = .ok (.iload_n 3, 1) := by decide +kernel
theorem dX12_latest_47 : decode cX12_latest 47 = .ok (.invokevirtual 302, 3) := by decide +kernel
theorem dX12_latest_50 : decode cX12_latest 50 = .ok (.invokevirtual 299, 3) := by decide +kernel
theorem dX12_latest_53 : decode cX12_latest 53 = .ok (.ifCond .ne 9, 3) := by decide +kernel
theorem dX12_latest_56 : decode cX12_latest 56 = .ok (.aload_n 0, 1) := by decide +kernel
theorem dX12_latest_57 : decode cX12_latest 57 = .ok (.iload_n 3, 1) := by decide +kernel
theorem dX12_latest_58 : decode cX12_latest 58 = .ok (.invokevirtual 302, 3) := by decide +kernel
theorem dX12_latest_61 : decode cX12_latest 61 = .ok (.ireturn, 1) := by decide +kernel
theorem dX12_latest_62 : decode cX12_latest 62 = .ok (.iinc 3 (-1), 3) := by decide +kernel
theorem dX12_latest_65 : decode cX12_latest 65 = .ok (.goto (-35), 3) := by decide +kernel
theorem dX12_latest_68 : decode cX12_latest 68 = .ok (.iconst (-1), 1) := by decide +kernel
theorem dX12_latest_69 : decode cX12_latest 69 = .ok (.ireturn, 1) := by decide +kernel
def f_X12_latest_62 (N : Nat) (R : Nat → Nat → Nat) (k30 : SI → Nat → Int32 → Int32 → Int32 → Option (Int32 × SI)) (σ : SI) (x0 : Nat) (x1 : Int32) (x2 : Int32) (x3 : Int32) : Option (Int32 × SI) := k30 σ x0 x1 x2 (x3 + (-1))
def f_X12_latest_30 (N : Nat) (R : Nat → Nat → Nat) : Nat → SI → Nat → Int32 → Int32 → Int32 → Option (Int32 × SI)
  | 0, _, _, _, _, _ => none
  | n + 1, σ, x0, x1, x2, x3 => if x3 < 0 then (some ((-1 : Int32), σ)) else (bd (f_X12_startAt N R σ x0 x3) (fun a8 σ8 => if x2 < a8 then (f_X12_latest_62 N R (fun σ x0 x1 x2 x3 => f_X12_latest_30 N R n σ x0 x1 x2 x3) σ8 x0 x1 x2 x3) else (bd (f_X12_startAt N R σ8 x0 x3) (fun a10 σ10 => bd (f_X12_why N R σ10 x0 x1 a10) (fun a11 σ11 => if a11 = 0 then (bd (f_X12_startAt N R σ11 x0 x3) (fun a13 σ13 => some (a13, σ13))) else (f_X12_latest_62 N R (fun σ x0 x1 x2 x3 => f_X12_latest_30 N R n σ x0 x1 x2 x3) σ11 x0 x1 x2 x3))))))
def f_X12_latest (N : Nat) (R : Nat → Nat → Nat) (σ : SI) (x0 : Nat) (x1 : Int32) (x2 : Int32) : Option (Int32 × SI) := sq (up σ x0 0 (0 : Int32)) (fun σ1 => bd (f_X12_noBlast N R σ1 x0 x1) (fun a2 σ2 => if a2 = 0 then (bd (f_X12_noMinute N R σ2 x0 x2) (fun a4 σ4 => if a4 = 0 then (bd (f_X12_starts N R σ4 x0) (fun a6 σ6 => f_X12_latest_30 N R N σ6 x0 x1 x2 (a6 - (1 : Int32)))) else (some ((0 : Int32), σ4)))) else (some ((0 : Int32), σ2))))
set_option maxHeartbeats 4000000 in
set_option maxRecDepth 100000 in
theorem w_X12_latest_62 {l : Launch} {g : GL} {p : Program} {e : Jvm.Env} {s : State} {m : MethodId} {args : Array Value} {below : List Frame} {meth : Method} {c : Code} {R : Nat → Nat → Nat} {L : Nat → Nat → Int64} {r : (Int32 × SI)} {N : Nat} {k30 : SI → Nat → Int32 → Int32 → Int32 → Option (Int32 × SI)} (C : Cx l g p s m meth c cX12_latest 4 RX12) (hr : meth.sig.returnType = (some .int)) (hSh : ShR R) (hk30 : ∀ (σ : SI) (x0 : Nat) (x1 : Int32) (x2 : Int32) (x3 : Int32), k30 σ x0 x1 x2 x3 = some r → Ok 194 x0 12 → ∀ (H : Heap) (locs : List Loc) (ls : Array Slot), S2 g s σ R L H locs → lv_has ls 4 [(0, .ref (gb g + x0)), (1, .int x1), (2, .int x2), (3, .int x3)] → W p l e (rmd 9 0 0) s m args below meth c H locs 0 0 (MQ below (Qg g 194 (PI R L r)) args s 0 0 (gA g)) (F0 m 30 ls [])) : ∀ (σ : SI) (x0 : Nat) (x1 : Int32) (x2 : Int32) (x3 : Int32), f_X12_latest_62 N R k30 σ x0 x1 x2 x3 = some r → Ok 194 x0 12 → ∀ (H : Heap) (locs : List Loc) (ls : Array Slot), S2 g s σ R L H locs → lv_has ls 4 [(0, .ref (gb g + x0)), (1, .int x1), (2, .int x2), (3, .int x3)] → W p l e (rmd 9 0 0) s m args below meth c H locs 0 0 (MQ below (Qg g 194 (PI R L r)) args s 0 0 (gA g)) (F0 m 62 ls []) := by
  have hx := C.1
  have hb := C.2.1
  intro σ x0 x1 x2 x3 h hx0 H locs ls S hl
  rw [f_X12_latest_62] at h
  refine lv_iinc (v := x3 + (-1)) (lv' := [(3, .int (x3 + (-1))), (0, .ref (gb g + x0)), (1, .int x1), (2, .int x2)]) hx hb dX12_latest_62 hl (k := 3) rfl rfl (by decide) rfl (fun ls hl => ?_)
  refine lv_goto (tgt := 30) hx hb dX12_latest_65 (by decide) ?_
  exact hk30 σ x0 x1 x2 (x3 + (-1)) h hx0 H locs ls S (lv_sub hl [1, 2, 3, 0] rfl)
set_option maxHeartbeats 4000000 in
set_option maxRecDepth 100000 in
theorem w_X12_latest_30 {l : Launch} {g : GL} {p : Program} {e : Jvm.Env} {s : State} {m : MethodId} {args : Array Value} {below : List Frame} {meth : Method} {c : Code} {R : Nat → Nat → Nat} {L : Nat → Nat → Int64} {r : (Int32 × SI)} {N : Nat} (C : Cx l g p s m meth c cX12_latest 4 RX12) (hr : meth.sig.returnType = (some .int)) (hSh : ShR R) : ∀ (n : Nat) (σ : SI) (x0 : Nat) (x1 : Int32) (x2 : Int32) (x3 : Int32), f_X12_latest_30 N R n σ x0 x1 x2 x3 = some r → Ok 194 x0 12 → ∀ (H : Heap) (locs : List Loc) (ls : Array Slot), S2 g s σ R L H locs → lv_has ls 4 [(0, .ref (gb g + x0)), (1, .int x1), (2, .int x2), (3, .int x3)] → W p l e (rmd 9 0 0) s m args below meth c H locs 0 0 (MQ below (Qg g 194 (PI R L r)) args s 0 0 (gA g)) (F0 m 30 ls []) := by
  have hx := C.1
  have hb := C.2.1
  intro n
  induction n with
  | zero =>
    intro σ x0 x1 x2 x3 h
    cases (show (none : Option (Int32 × SI)) = some r from h)
  | succ n ih =>
    intro σ x0 x1 x2 x3 h hx0 H locs ls S hl
    rw [f_X12_latest_30] at h
    refine lv_iload_n hx hb dX12_latest_30 rfl (lv_at hl 3 rfl) ?_
    refine lv_if_lt (tgt := 68) hx hb dX12_latest_31 (by decide) (fun c7 => ?_) (fun c7 => ?_)
    · have h := it_p c7 h
      refine lv_iconst (v := (-1 : Int32)) hx hb dX12_latest_68 (by decide) ?_
      exact x_iret C S hr h dX12_latest_69
    · have h := it_n c7 h
      refine lv_aload_n hx hb dX12_latest_34 rfl (lv_at hl 0 rfl) ?_
      refine lv_iload_n hx hb dX12_latest_35 rfl (lv_at hl 3 rfl) ?_
      obtain ⟨a8, σ8, hc8, h⟩ := bd_el h
      refine x_callVI C S KX12 hx0 (ok_X12_startAt (L := L) hc8 hSh hx0) ⟨cd_X12_startAt, ni_RX12, ml_RX12_302, in_X12_startAt, sl_X12_startAt⟩ ⟨by decide, by decide⟩ rfl ⟨by decide, by decide⟩ hl.1 rfl (Nat.le_of_ble_eq_true rfl) ⟨by decide, by decide⟩ dX12_latest_36 (fun H locs S => ?_)
      refine lv_iload_n hx hb dX12_latest_39 rfl (lv_at hl 2 rfl) ?_
      refine lv_icmp_gt (tgt := 62) hx hb dX12_latest_40 (by decide) (fun c9 => ?_) (fun c9 => ?_)
      · have h := it_p c9 h
        exact w_X12_latest_62 C hr hSh ih σ8 x0 x1 x2 x3 h hx0 H locs ls S (lv_sub hl [0, 1, 2, 3] rfl)
      · have h := it_n c9 h
        refine lv_aload_n hx hb dX12_latest_43 rfl (lv_at hl 0 rfl) ?_
        refine lv_iload_n hx hb dX12_latest_44 rfl (lv_at hl 1 rfl) ?_
        refine lv_aload_n hx hb dX12_latest_45 rfl (lv_at hl 0 rfl) ?_
        refine lv_iload_n hx hb dX12_latest_46 rfl (lv_at hl 3 rfl) ?_
        obtain ⟨a10, σ10, hc10, h⟩ := bd_el h
        refine x_callVI C S KX12 hx0 (ok_X12_startAt (L := L) hc10 hSh hx0) ⟨cd_X12_startAt, ni_RX12, ml_RX12_302, in_X12_startAt, sl_X12_startAt⟩ ⟨by decide, by decide⟩ rfl ⟨by decide, by decide⟩ hl.1 rfl (Nat.le_of_ble_eq_true rfl) ⟨by decide, by decide⟩ dX12_latest_47 (fun H locs S => ?_)
        obtain ⟨a11, σ11, hc11, h⟩ := bd_el h
        refine x_callVI C S KX12 hx0 (ok_X12_why (L := L) hc11 hSh hx0) ⟨cd_X12_why, ni_RX12, ml_RX12_299, in_X12_why, sl_X12_why⟩ ⟨by decide, by decide⟩ rfl ⟨by decide, by decide⟩ hl.1 rfl (Nat.le_of_ble_eq_true rfl) ⟨by decide, by decide⟩ dX12_latest_50 (fun H locs S => ?_)
        refine lv_if_ne (tgt := 62) hx hb dX12_latest_53 (by decide) (fun c12 => ?_) (fun c12 => ?_)
        · have h := it_n c12 h
          exact w_X12_latest_62 C hr hSh ih σ11 x0 x1 x2 x3 h hx0 H locs ls S (lv_sub hl [0, 1, 2, 3] rfl)
        · have h := it_p c12 h
          refine lv_aload_n hx hb dX12_latest_56 rfl (lv_at hl 0 rfl) ?_
          refine lv_iload_n hx hb dX12_latest_57 rfl (lv_at hl 3 rfl) ?_
          obtain ⟨a13, σ13, hc13, h⟩ := bd_el h
          refine x_callVI C S KX12 hx0 (ok_X12_startAt (L := L) hc13 hSh hx0) ⟨cd_X12_startAt, ni_RX12, ml_RX12_302, in_X12_startAt, sl_X12_startAt⟩ ⟨by decide, by decide⟩ rfl ⟨by decide, by decide⟩ hl.1 rfl (Nat.le_of_ble_eq_true rfl) ⟨by decide, by decide⟩ dX12_latest_58 (fun H locs S => ?_)
          exact x_iret C S hr h dX12_latest_61
set_option maxHeartbeats 4000000 in
set_option maxRecDepth 100000 in
theorem ok_X12_latest {l : Launch} {g : GL} {R : Nat → Nat → Nat} {L : Nat → Nat → Int64} {N : Nat} {σ : SI} {x0 : Nat} {x1 : Int32} {x2 : Int32} {r : (Int32 × SI)} (h : f_X12_latest N R σ x0 x1 x2 = some r) (hSh : ShR R) (hx0 : Ok 194 x0 12) : Ct l g 9 yX12_latest cX12_latest 4 (some .int) 194 194 0 0 [.ref (gb g + x0), .int x1, .int x2] (mkS σ R L) (PI R L r) := by
  refine Met.ofW (cc := cX12_latest) (maxL := 4) (ret := (some .int)) (by decide) rfl ?_
  intro p e s m args below meth c s₁ B hml hv
  obtain ⟨rfl, hE, hLo, hWd⟩ := hv
  have hr : meth.sig.returnType = (some .int) := B.returns
  have C : Cx l g p s m meth c cX12_latest 4 RX12 := ⟨B.exec, B.bytes, hml, findClass_of_methodNamed B.named, hE, hLo, B.notSynchronized⟩
  have S : S2 g s σ R L s.heap [] := ⟨hWd, va_S.rf⟩
  have hx := C.1
  have hb := C.2.1
  have hl := lv_entry ([.ref (gb g + x0), .int x1, .int x2]) (n := 4) (Nat.le_of_ble_eq_true rfl)
  rw [lg_entry_eq]
  generalize (lg_sl ([.ref (gb g + x0), .int x1, .int x2]) ++ List.replicate (4 - (lg_sl ([.ref (gb g + x0), .int x1, .int x2])).length) Slot.unset).toArray = ls at hl ⊢
  have hl : lv_has ls 4 [(0, .ref (gb g + x0)), (1, .int x1), (2, .int x2)] := hl
  generalize hH : s.heap = H at S ⊢
  generalize hlc : ([] : List Loc) = locs at S ⊢
  rw [f_X12_latest] at h
  refine lv_aload_n hx hb dX12_latest_0 rfl (lv_at hl 0 rfl) ?_
  refine lv_iconst (v := (0 : Int32)) hx hb dX12_latest_1 (by decide) ?_
  obtain ⟨σ1, hs1, h⟩ := sq_el h
  refine x_putI C S KX12 hx0 0 (by decide) rfl rfl rfl ⟨rfl, rfl⟩ fl_RX12_3 dX12_latest_2 hs1 (fun H locs S => ?_)
  refine lv_aload_n hx hb dX12_latest_5 rfl (lv_at hl 0 rfl) ?_
  refine lv_iload_n hx hb dX12_latest_6 rfl (lv_at hl 1 rfl) ?_
  obtain ⟨a2, σ2, hc2, h⟩ := bd_el h
  refine x_callVI C S KX12 hx0 (ok_X12_noBlast (L := L) hc2 hSh hx0) ⟨cd_X12_noBlast, ni_RX12, ml_RX12_198, in_X12_noBlast, sl_X12_noBlast⟩ ⟨by decide, by decide⟩ rfl ⟨by decide, by decide⟩ hl.1 rfl (Nat.le_of_ble_eq_true rfl) ⟨by decide, by decide⟩ dX12_latest_7 (fun H locs S => ?_)
  refine lv_if_ne (tgt := 21) hx hb dX12_latest_10 (by decide) (fun c3 => ?_) (fun c3 => ?_)
  · have h := it_n c3 h
    refine lv_iconst (v := (0 : Int32)) hx hb dX12_latest_21 (by decide) ?_
    exact x_iret C S hr h dX12_latest_22
  · have h := it_p c3 h
    refine lv_aload_n hx hb dX12_latest_13 rfl (lv_at hl 0 rfl) ?_
    refine lv_iload_n hx hb dX12_latest_14 rfl (lv_at hl 2 rfl) ?_
    obtain ⟨a4, σ4, hc4, h⟩ := bd_el h
    refine x_callVI C S KX12 hx0 (ok_X12_noMinute (L := L) hc4 hSh hx0) ⟨cd_X12_noMinute, ni_RX12, ml_RX12_296, in_X12_noMinute, sl_X12_noMinute⟩ ⟨by decide, by decide⟩ rfl ⟨by decide, by decide⟩ hl.1 rfl (Nat.le_of_ble_eq_true rfl) ⟨by decide, by decide⟩ dX12_latest_15 (fun H locs S => ?_)
    refine lv_if_eq (tgt := 23) hx hb dX12_latest_18 (by decide) (fun c5 => ?_) (fun c5 => ?_)
    · have h := it_p c5 h
      refine lv_aload_n hx hb dX12_latest_23 rfl (lv_at hl 0 rfl) ?_
      obtain ⟨a6, σ6, hc6, h⟩ := bd_el h
      refine x_callVI C S KX12 hx0 (ok_X12_starts (L := L) hc6 hSh hx0) ⟨cd_X12_starts, ni_RX12, ml_RX12_195, in_X12_starts, sl_X12_starts⟩ ⟨by decide, by decide⟩ rfl ⟨by decide, by decide⟩ hl.1 rfl (Nat.le_of_ble_eq_true rfl) ⟨by decide, by decide⟩ dX12_latest_24 (fun H locs S => ?_)
      refine lv_iconst (v := (1 : Int32)) hx hb dX12_latest_27 (by decide) ?_
      refine lv_isub hx hb dX12_latest_28 ?_
      refine lv_istore_n (lv' := [(3, .int (a6 - (1 : Int32))), (0, .ref (gb g + x0)), (1, .int x1), (2, .int x2)]) hx hb dX12_latest_29 rfl hl (by decide) rfl (fun ls hl => ?_)
      exact w_X12_latest_30 C hr hSh N σ6 x0 x1 x2 (a6 - (1 : Int32)) h hx0 H locs ls S (lv_sub hl [1, 2, 3, 0] rfl)
    · have h := it_n c5 h
      refine lv_iconst (v := (0 : Int32)) hx hb dX12_latest_21 (by decide) ?_
      exact x_iret C S hr h dX12_latest_22
theorem dX12_countOf_0 : decode cX12_countOf 0 = .ok (.iconst 0, 1) := by decide +kernel
theorem dX12_countOf_1 : decode cX12_countOf 1 = .ok (.istore_n 3, 1) := by decide +kernel
theorem dX12_countOf_2 : decode cX12_countOf 2 = .ok (.iconst 0, 1) := by decide +kernel
theorem dX12_countOf_3 : decode cX12_countOf 3 = .ok (.istore 4, 2) := by decide +kernel
theorem dX12_countOf_5 : decode cX12_countOf 5 = .ok (.iload 4, 2) := by decide +kernel
theorem dX12_countOf_7 : decode cX12_countOf 7 = .ok (.aload_n 0, 1) := by decide +kernel
theorem dX12_countOf_8 : decode cX12_countOf 8 = .ok (.invokevirtual 195, 3) := by decide +kernel
theorem dX12_countOf_11 : decode cX12_countOf 11 = .ok (.if_icmp .ge 32, 3) := by decide +kernel
theorem dX12_countOf_14 : decode cX12_countOf 14 = .ok (.iload_n 3, 1) := by decide +kernel
theorem dX12_countOf_15 : decode cX12_countOf 15 = .ok (.aload_n 0, 1) := by decide +kernel
theorem dX12_countOf_16 : decode cX12_countOf 16 = .ok (.iload_n 1, 1) := by decide +kernel
theorem dX12_countOf_17 : decode cX12_countOf 17 = .ok (.aload_n 0, 1) := by decide +kernel
theorem dX12_countOf_18 : decode cX12_countOf 18 = .ok (.iload 4, 2) := by decide +kernel
theorem dX12_countOf_20 : decode cX12_countOf 20 = .ok (.invokevirtual 302, 3) := by decide +kernel
theorem dX12_countOf_23 : decode cX12_countOf 23 = .ok (.invokevirtual 299, 3) := by decide +kernel
theorem dX12_countOf_26 : decode cX12_countOf 26 = .ok (.iload_n 2, 1) := by decide +kernel
theorem dX12_countOf_27 : decode cX12_countOf 27 = .ok (.if_icmp .ne 7, 3) := by decide +kernel
theorem dX12_countOf_30 : decode cX12_countOf 30 = .ok (.iconst 1, 1) := by decide +kernel
theorem dX12_countOf_31 : decode cX12_countOf 31 = .ok (.goto 4, 3) := by decide +kernel
theorem dX12_countOf_34 : decode cX12_countOf 34 = .ok (.iconst 0, 1) := by decide +kernel
theorem dX12_countOf_35 : decode cX12_countOf 35 = .ok (.iadd, 1) := by decide +kernel
theorem dX12_countOf_36 : decode cX12_countOf 36 = .ok (.istore_n 3, 1) := by decide +kernel
theorem dX12_countOf_37 : decode cX12_countOf 37 = .ok (.iinc 4 1, 3) := by decide +kernel
theorem dX12_countOf_40 : decode cX12_countOf 40 = .ok (.goto (-35), 3) := by decide +kernel
theorem dX12_countOf_43 : decode cX12_countOf 43 = .ok (.iload_n 3, 1) := by decide +kernel
theorem dX12_countOf_44 : decode cX12_countOf 44 = .ok (.ireturn, 1) := by decide +kernel
def f_X12_countOf_5 (N : Nat) (R : Nat → Nat → Nat) : Nat → SI → Nat → Int32 → Int32 → Int32 → Int32 → Option (Int32 × SI)
  | 0, _, _, _, _, _, _ => none
  | n + 1, σ, x0, x1, x2, x3, x4 => bd (f_X12_starts N R σ x0) (fun a1 σ1 => if a1 ≤ x4 then (some (x3, σ1)) else (bd (f_X12_startAt N R σ1 x0 x4) (fun a3 σ3 => bd (f_X12_why N R σ3 x0 x1 a3) (fun a4 σ4 => if a4 = x2 then (f_X12_countOf_5 N R n σ4 x0 x1 x2 (x3 + (1 : Int32)) (x4 + 1)) else (f_X12_countOf_5 N R n σ4 x0 x1 x2 (x3 + (0 : Int32)) (x4 + 1))))))
def f_X12_countOf (N : Nat) (R : Nat → Nat → Nat) (σ : SI) (x0 : Nat) (x1 : Int32) (x2 : Int32) : Option (Int32 × SI) := f_X12_countOf_5 N R N σ x0 x1 x2 (0 : Int32) (0 : Int32)
set_option maxHeartbeats 4000000 in
set_option maxRecDepth 100000 in
theorem w_X12_countOf_5 {l : Launch} {g : GL} {p : Program} {e : Jvm.Env} {s : State} {m : MethodId} {args : Array Value} {below : List Frame} {meth : Method} {c : Code} {R : Nat → Nat → Nat} {L : Nat → Nat → Int64} {r : (Int32 × SI)} {N : Nat} (C : Cx l g p s m meth c cX12_countOf 5 RX12) (hr : meth.sig.returnType = (some .int)) (hSh : ShR R) : ∀ (n : Nat) (σ : SI) (x0 : Nat) (x1 : Int32) (x2 : Int32) (x3 : Int32) (x4 : Int32), f_X12_countOf_5 N R n σ x0 x1 x2 x3 x4 = some r → Ok 194 x0 12 → ∀ (H : Heap) (locs : List Loc) (ls : Array Slot), S2 g s σ R L H locs → lv_has ls 5 [(0, .ref (gb g + x0)), (1, .int x1), (2, .int x2), (3, .int x3), (4, .int x4)] → W p l e (rmd 9 0 0) s m args below meth c H locs 0 0 (MQ below (Qg g 194 (PI R L r)) args s 0 0 (gA g)) (F0 m 5 ls []) := by
  have hx := C.1
  have hb := C.2.1
  intro n
  induction n with
  | zero =>
    intro σ x0 x1 x2 x3 x4 h
    cases (show (none : Option (Int32 × SI)) = some r from h)
  | succ n ih =>
    intro σ x0 x1 x2 x3 x4 h hx0 H locs ls S hl
    rw [f_X12_countOf_5] at h
    refine lv_iload hx hb dX12_countOf_5 (lv_at hl 4 rfl) ?_
    refine lv_aload_n hx hb dX12_countOf_7 rfl (lv_at hl 0 rfl) ?_
    obtain ⟨a1, σ1, hc1, h⟩ := bd_el h
    refine x_callVI C S KX12 hx0 (ok_X12_starts (L := L) hc1 hSh hx0) ⟨cd_X12_starts, ni_RX12, ml_RX12_195, in_X12_starts, sl_X12_starts⟩ ⟨by decide, by decide⟩ rfl ⟨by decide, by decide⟩ hl.1 rfl (Nat.le_of_ble_eq_true rfl) ⟨by decide, by decide⟩ dX12_countOf_8 (fun H locs S => ?_)
    refine lv_icmp_ge (tgt := 43) hx hb dX12_countOf_11 (by decide) (fun c2 => ?_) (fun c2 => ?_)
    · have h := it_p c2 h
      refine lv_iload_n hx hb dX12_countOf_43 rfl (lv_at hl 3 rfl) ?_
      exact x_iret C S hr h dX12_countOf_44
    · have h := it_n c2 h
      refine lv_iload_n hx hb dX12_countOf_14 rfl (lv_at hl 3 rfl) ?_
      refine lv_aload_n hx hb dX12_countOf_15 rfl (lv_at hl 0 rfl) ?_
      refine lv_iload_n hx hb dX12_countOf_16 rfl (lv_at hl 1 rfl) ?_
      refine lv_aload_n hx hb dX12_countOf_17 rfl (lv_at hl 0 rfl) ?_
      refine lv_iload hx hb dX12_countOf_18 (lv_at hl 4 rfl) ?_
      obtain ⟨a3, σ3, hc3, h⟩ := bd_el h
      refine x_callVI C S KX12 hx0 (ok_X12_startAt (L := L) hc3 hSh hx0) ⟨cd_X12_startAt, ni_RX12, ml_RX12_302, in_X12_startAt, sl_X12_startAt⟩ ⟨by decide, by decide⟩ rfl ⟨by decide, by decide⟩ hl.1 rfl (Nat.le_of_ble_eq_true rfl) ⟨by decide, by decide⟩ dX12_countOf_20 (fun H locs S => ?_)
      obtain ⟨a4, σ4, hc4, h⟩ := bd_el h
      refine x_callVI C S KX12 hx0 (ok_X12_why (L := L) hc4 hSh hx0) ⟨cd_X12_why, ni_RX12, ml_RX12_299, in_X12_why, sl_X12_why⟩ ⟨by decide, by decide⟩ rfl ⟨by decide, by decide⟩ hl.1 rfl (Nat.le_of_ble_eq_true rfl) ⟨by decide, by decide⟩ dX12_countOf_23 (fun H locs S => ?_)
      refine lv_iload_n hx hb dX12_countOf_26 rfl (lv_at hl 2 rfl) ?_
      refine lv_icmp_ne (tgt := 34) hx hb dX12_countOf_27 (by decide) (fun c5 => ?_) (fun c5 => ?_)
      · have h := it_n c5 h
        refine lv_iconst (v := (0 : Int32)) hx hb dX12_countOf_34 (by decide) ?_
        refine lv_iadd hx hb dX12_countOf_35 ?_
        refine lv_istore_n (lv' := [(3, .int (x3 + (0 : Int32))), (0, .ref (gb g + x0)), (1, .int x1), (2, .int x2), (4, .int x4)]) hx hb dX12_countOf_36 rfl hl (by decide) rfl (fun ls hl => ?_)
        refine lv_iinc (v := x4 + 1) (lv' := [(4, .int (x4 + 1)), (3, .int (x3 + (0 : Int32))), (0, .ref (gb g + x0)), (1, .int x1), (2, .int x2)]) hx hb dX12_countOf_37 hl (k := 4) rfl rfl (by decide) rfl (fun ls hl => ?_)
        refine lv_goto (tgt := 5) hx hb dX12_countOf_40 (by decide) ?_
        exact ih σ4 x0 x1 x2 (x3 + (0 : Int32)) (x4 + 1) h hx0 H locs ls S (lv_sub hl [2, 3, 4, 1, 0] rfl)
      · have h := it_p c5 h
        refine lv_iconst (v := (1 : Int32)) hx hb dX12_countOf_30 (by decide) ?_
        refine lv_goto (tgt := 35) hx hb dX12_countOf_31 (by decide) ?_
        refine lv_iadd hx hb dX12_countOf_35 ?_
        refine lv_istore_n (lv' := [(3, .int (x3 + (1 : Int32))), (0, .ref (gb g + x0)), (1, .int x1), (2, .int x2), (4, .int x4)]) hx hb dX12_countOf_36 rfl hl (by decide) rfl (fun ls hl => ?_)
        refine lv_iinc (v := x4 + 1) (lv' := [(4, .int (x4 + 1)), (3, .int (x3 + (1 : Int32))), (0, .ref (gb g + x0)), (1, .int x1), (2, .int x2)]) hx hb dX12_countOf_37 hl (k := 4) rfl rfl (by decide) rfl (fun ls hl => ?_)
        refine lv_goto (tgt := 5) hx hb dX12_countOf_40 (by decide) ?_
        exact ih σ4 x0 x1 x2 (x3 + (1 : Int32)) (x4 + 1) h hx0 H locs ls S (lv_sub hl [2, 3, 4, 1, 0] rfl)
set_option maxHeartbeats 4000000 in
set_option maxRecDepth 100000 in
theorem ok_X12_countOf {l : Launch} {g : GL} {R : Nat → Nat → Nat} {L : Nat → Nat → Int64} {N : Nat} {σ : SI} {x0 : Nat} {x1 : Int32} {x2 : Int32} {r : (Int32 × SI)} (h : f_X12_countOf N R σ x0 x1 x2 = some r) (hSh : ShR R) (hx0 : Ok 194 x0 12) : Ct l g 9 yX12_countOf cX12_countOf 5 (some .int) 194 194 0 0 [.ref (gb g + x0), .int x1, .int x2] (mkS σ R L) (PI R L r) := by
  refine Met.ofW (cc := cX12_countOf) (maxL := 5) (ret := (some .int)) (by decide) rfl ?_
  intro p e s m args below meth c s₁ B hml hv
  obtain ⟨rfl, hE, hLo, hWd⟩ := hv
  have hr : meth.sig.returnType = (some .int) := B.returns
  have C : Cx l g p s m meth c cX12_countOf 5 RX12 := ⟨B.exec, B.bytes, hml, findClass_of_methodNamed B.named, hE, hLo, B.notSynchronized⟩
  have S : S2 g s σ R L s.heap [] := ⟨hWd, va_S.rf⟩
  have hx := C.1
  have hb := C.2.1
  have hl := lv_entry ([.ref (gb g + x0), .int x1, .int x2]) (n := 5) (Nat.le_of_ble_eq_true rfl)
  rw [lg_entry_eq]
  generalize (lg_sl ([.ref (gb g + x0), .int x1, .int x2]) ++ List.replicate (5 - (lg_sl ([.ref (gb g + x0), .int x1, .int x2])).length) Slot.unset).toArray = ls at hl ⊢
  have hl : lv_has ls 5 [(0, .ref (gb g + x0)), (1, .int x1), (2, .int x2)] := hl
  generalize hH : s.heap = H at S ⊢
  generalize hlc : ([] : List Loc) = locs at S ⊢
  rw [f_X12_countOf] at h
  refine lv_iconst (v := (0 : Int32)) hx hb dX12_countOf_0 (by decide) ?_
  refine lv_istore_n (lv' := [(3, .int (0 : Int32)), (0, .ref (gb g + x0)), (1, .int x1), (2, .int x2)]) hx hb dX12_countOf_1 rfl hl (by decide) rfl (fun ls hl => ?_)
  refine lv_iconst (v := (0 : Int32)) hx hb dX12_countOf_2 (by decide) ?_
  refine lv_istore (lv' := [(4, .int (0 : Int32)), (3, .int (0 : Int32)), (0, .ref (gb g + x0)), (1, .int x1), (2, .int x2)]) hx hb dX12_countOf_3 hl (by decide) rfl (fun ls hl => ?_)
  exact w_X12_countOf_5 C hr hSh N σ x0 x1 x2 (0 : Int32) (0 : Int32) h hx0 H locs ls S (lv_sub hl [2, 3, 4, 1, 0] rfl)
theorem dX12_reasonCount_0 : decode cX12_reasonCount 0 = .ok (.aload_n 0, 1) := by decide +kernel
theorem dX12_reasonCount_1 : decode cX12_reasonCount 1 = .ok (.iconst 0, 1) := by decide +kernel
theorem dX12_reasonCount_2 : decode cX12_reasonCount 2 = .ok (.putfield 3, 3) := by decide +kernel
theorem dX12_reasonCount_5 : decode cX12_reasonCount 5 = .ok (.aload_n 0, 1) := by decide +kernel
theorem dX12_reasonCount_6 : decode cX12_reasonCount 6 = .ok (.iload_n 1, 1) := by decide +kernel
theorem dX12_reasonCount_7 : decode cX12_reasonCount 7 = .ok (.invokevirtual 198, 3) := by decide +kernel
theorem dX12_reasonCount_10 : decode cX12_reasonCount 10 = .ok (.ifCond .ne 25, 3) := by decide +kernel
theorem dX12_reasonCount_13 : decode cX12_reasonCount 13 = .ok (.aload_n 0, 1) := by decide +kernel
theorem dX12_reasonCount_14 : decode cX12_reasonCount 14 = .ok (.iload_n 2, 1) := by decide +kernel
theorem dX12_reasonCount_15 : decode cX12_reasonCount 15 = .ok (.iconst 0, 1) := by decide +kernel
theorem dX12_reasonCount_16 : decode cX12_reasonCount 16 = .ok (.iconst 5, 1) := by decide +kernel
theorem dX12_reasonCount_17 : decode cX12_reasonCount 17 = .ok (.invokestatic 71, 3) := by decide +kernel
theorem dX12_reasonCount_20 : decode cX12_reasonCount 20 = .ok (.ifCond .ne 7, 3) := by decide +kernel
theorem dX12_reasonCount_23 : decode cX12_reasonCount 23 = .ok (.iconst 1, 1) := by decide +kernel
theorem dX12_reasonCount_24 : decode cX12_reasonCount 24 = .ok (.goto 4, 3) := by decide +kernel
theorem dX12_reasonCount_27 : decode cX12_reasonCount 27 = .ok (.iconst 0, 1) := by decide +kernel
theorem dX12_reasonCount_28 : decode cX12_reasonCount 28 = .ok (.iconst 2, 1) := by decide +kernel
theorem dX12_reasonCount_29 : decode cX12_reasonCount 29 = .ok (.invokevirtual 185, 3) := by decide +kernel
theorem dX12_reasonCount_32 : decode cX12_reasonCount 32 = .ok (.ifCond .eq 7, 3) := by decide +kernel
theorem dX12_reasonCount_35 : decode cX12_reasonCount 35 = .ok (.iconst 0, 1) := by decide +kernel
theorem dX12_reasonCount_36 : decode cX12_reasonCount 36 = .ok (.goto 9, 3) := by decide +kernel
theorem dX12_reasonCount_39 : decode cX12_reasonCount 39 = .ok (.aload_n 0, 1) := by decide +kernel
theorem dX12_reasonCount_40 : decode cX12_reasonCount 40 = .ok (.iload_n 1, 1) := by decide +kernel
theorem dX12_reasonCount_41 : decode cX12_reasonCount 41 = .ok (.iload_n 2, 1) := by decide +kernel
theorem dX12_reasonCount_42 : decode cX12_reasonCount 42 = .ok (.invokevirtual 305, 3) := by decide +kernel
theorem dX12_reasonCount_45 : decode cX12_reasonCount 45 = .ok (.ireturn, 1) := by decide +kernel
def f_X12_reasonCount_35 (N : Nat) (R : Nat → Nat → Nat) (σ : SI) : Option (Int32 × SI) := some ((0 : Int32), σ)
def f_X12_reasonCount (N : Nat) (R : Nat → Nat → Nat) (σ : SI) (x0 : Nat) (x1 : Int32) (x2 : Int32) : Option (Int32 × SI) := sq (up σ x0 0 (0 : Int32)) (fun σ1 => bd (f_X12_noBlast N R σ1 x0 x1) (fun a2 σ2 => if a2 = 0 then (bd (f_X12_in N R σ2 x2 (0 : Int32) (5 : Int32)) (fun a4 σ4 => if a4 = 0 then (bd (f_X12_throwsIf N R σ4 x0 (1 : Int32) (2 : Int32)) (fun a9 σ9 => if a9 = 0 then (bd (f_X12_countOf N R σ9 x0 x1 x2) (fun a11 σ11 => some (a11, σ11))) else (f_X12_reasonCount_35 N R σ9))) else (bd (f_X12_throwsIf N R σ4 x0 (0 : Int32) (2 : Int32)) (fun a6 σ6 => if a6 = 0 then (bd (f_X12_countOf N R σ6 x0 x1 x2) (fun a8 σ8 => some (a8, σ8))) else (f_X12_reasonCount_35 N R σ6))))) else (f_X12_reasonCount_35 N R σ2)))
set_option maxHeartbeats 4000000 in
set_option maxRecDepth 100000 in
theorem w_X12_reasonCount_35 {l : Launch} {g : GL} {p : Program} {e : Jvm.Env} {s : State} {m : MethodId} {args : Array Value} {below : List Frame} {meth : Method} {c : Code} {R : Nat → Nat → Nat} {L : Nat → Nat → Int64} {r : (Int32 × SI)} {N : Nat} (C : Cx l g p s m meth c cX12_reasonCount 3 RX12) (hr : meth.sig.returnType = (some .int)) (hSh : ShR R) : ∀ (σ : SI), f_X12_reasonCount_35 N R σ = some r → ∀ (H : Heap) (locs : List Loc) (ls : Array Slot), S2 g s σ R L H locs → lv_has ls 3 [] → W p l e (rmd 10 0 0) s m args below meth c H locs 0 0 (MQ below (Qg g 194 (PI R L r)) args s 0 0 (gA g)) (F0 m 35 ls []) := by
  have hx := C.1
  have hb := C.2.1
  intro σ h H locs ls S hl
  rw [f_X12_reasonCount_35] at h
  refine lv_iconst (v := (0 : Int32)) hx hb dX12_reasonCount_35 (by decide) ?_
  refine lv_goto (tgt := 45) hx hb dX12_reasonCount_36 (by decide) ?_
  exact x_iret C S hr h dX12_reasonCount_45
set_option maxHeartbeats 4000000 in
set_option maxRecDepth 100000 in
theorem ok_X12_reasonCount {l : Launch} {g : GL} {R : Nat → Nat → Nat} {L : Nat → Nat → Int64} {N : Nat} {σ : SI} {x0 : Nat} {x1 : Int32} {x2 : Int32} {r : (Int32 × SI)} (h : f_X12_reasonCount N R σ x0 x1 x2 = some r) (hSh : ShR R) (hx0 : Ok 194 x0 12) : Ct l g 10 yX12_reasonCount cX12_reasonCount 3 (some .int) 194 194 0 0 [.ref (gb g + x0), .int x1, .int x2] (mkS σ R L) (PI R L r) := by
  refine Met.ofW (cc := cX12_reasonCount) (maxL := 3) (ret := (some .int)) (by decide) rfl ?_
  intro p e s m args below meth c s₁ B hml hv
  obtain ⟨rfl, hE, hLo, hWd⟩ := hv
  have hr : meth.sig.returnType = (some .int) := B.returns
  have C : Cx l g p s m meth c cX12_reasonCount 3 RX12 := ⟨B.exec, B.bytes, hml, findClass_of_methodNamed B.named, hE, hLo, B.notSynchronized⟩
  have S : S2 g s σ R L s.heap [] := ⟨hWd, va_S.rf⟩
  have hx := C.1
  have hb := C.2.1
  have hl := lv_entry ([.ref (gb g + x0), .int x1, .int x2]) (n := 3) (Nat.le_of_ble_eq_true rfl)
  rw [lg_entry_eq]
  generalize (lg_sl ([.ref (gb g + x0), .int x1, .int x2]) ++ List.replicate (3 - (lg_sl ([.ref (gb g + x0), .int x1, .int x2])).length) Slot.unset).toArray = ls at hl ⊢
  have hl : lv_has ls 3 [(0, .ref (gb g + x0)), (1, .int x1), (2, .int x2)] := hl
  generalize hH : s.heap = H at S ⊢
  generalize hlc : ([] : List Loc) = locs at S ⊢
  rw [f_X12_reasonCount] at h
  refine lv_aload_n hx hb dX12_reasonCount_0 rfl (lv_at hl 0 rfl) ?_
  refine lv_iconst (v := (0 : Int32)) hx hb dX12_reasonCount_1 (by decide) ?_
  obtain ⟨σ1, hs1, h⟩ := sq_el h
  refine x_putI C S KX12 hx0 0 (by decide) rfl rfl rfl ⟨rfl, rfl⟩ fl_RX12_3 dX12_reasonCount_2 hs1 (fun H locs S => ?_)
  refine lv_aload_n hx hb dX12_reasonCount_5 rfl (lv_at hl 0 rfl) ?_
  refine lv_iload_n hx hb dX12_reasonCount_6 rfl (lv_at hl 1 rfl) ?_
  obtain ⟨a2, σ2, hc2, h⟩ := bd_el h
  refine x_callVI C S KX12 hx0 (ok_X12_noBlast (L := L) hc2 hSh hx0) ⟨cd_X12_noBlast, ni_RX12, ml_RX12_198, in_X12_noBlast, sl_X12_noBlast⟩ ⟨by decide, by decide⟩ rfl ⟨by decide, by decide⟩ hl.1 rfl (Nat.le_of_ble_eq_true rfl) ⟨by decide, by decide⟩ dX12_reasonCount_7 (fun H locs S => ?_)
  refine lv_if_ne (tgt := 35) hx hb dX12_reasonCount_10 (by decide) (fun c3 => ?_) (fun c3 => ?_)
  · have h := it_n c3 h
    exact w_X12_reasonCount_35 C hr hSh σ2 h H locs ls S (lv_sub hl [] rfl)
  · have h := it_p c3 h
    refine lv_aload_n hx hb dX12_reasonCount_13 rfl (lv_at hl 0 rfl) ?_
    refine lv_iload_n hx hb dX12_reasonCount_14 rfl (lv_at hl 2 rfl) ?_
    refine lv_iconst (v := (0 : Int32)) hx hb dX12_reasonCount_15 (by decide) ?_
    refine lv_iconst (v := (5 : Int32)) hx hb dX12_reasonCount_16 (by decide) ?_
    obtain ⟨a4, σ4, hc4, h⟩ := bd_el h
    refine x_callSI C S (ok_X12_in (L := L) hc4 hSh) ⟨cd_X12_in, ni_RX12, ml_RX12_71, st_X12_in⟩ ⟨by decide, by decide⟩ rfl ⟨by decide, by decide⟩ hl.1 rfl (Nat.le_of_ble_eq_true rfl) ⟨by decide, by decide⟩ dX12_reasonCount_17 (fun H locs S => ?_)
    refine lv_if_ne (tgt := 27) hx hb dX12_reasonCount_20 (by decide) (fun c5 => ?_) (fun c5 => ?_)
    · have h := it_n c5 h
      refine lv_iconst (v := (0 : Int32)) hx hb dX12_reasonCount_27 (by decide) ?_
      refine lv_iconst (v := (2 : Int32)) hx hb dX12_reasonCount_28 (by decide) ?_
      obtain ⟨a6, σ6, hc6, h⟩ := bd_el h
      refine x_callVI C S KX12 hx0 (ok_X12_throwsIf (L := L) hc6 hSh hx0) ⟨cd_X12_throwsIf, ni_RX12, ml_RX12_185, in_X12_throwsIf, sl_X12_throwsIf⟩ ⟨by decide, by decide⟩ rfl ⟨by decide, by decide⟩ hl.1 rfl (Nat.le_of_ble_eq_true rfl) ⟨by decide, by decide⟩ dX12_reasonCount_29 (fun H locs S => ?_)
      refine lv_if_eq (tgt := 39) hx hb dX12_reasonCount_32 (by decide) (fun c7 => ?_) (fun c7 => ?_)
      · have h := it_p c7 h
        refine lv_aload_n hx hb dX12_reasonCount_39 rfl (lv_at hl 0 rfl) ?_
        refine lv_iload_n hx hb dX12_reasonCount_40 rfl (lv_at hl 1 rfl) ?_
        refine lv_iload_n hx hb dX12_reasonCount_41 rfl (lv_at hl 2 rfl) ?_
        obtain ⟨a8, σ8, hc8, h⟩ := bd_el h
        refine x_callVI C S KX12 hx0 (ok_X12_countOf (L := L) hc8 hSh hx0) ⟨cd_X12_countOf, ni_RX12, ml_RX12_305, in_X12_countOf, sl_X12_countOf⟩ ⟨by decide, by decide⟩ rfl ⟨by decide, by decide⟩ hl.1 rfl (Nat.le_of_ble_eq_true rfl) ⟨by decide, by decide⟩ dX12_reasonCount_42 (fun H locs S => ?_)
        exact x_iret C S hr h dX12_reasonCount_45
      · have h := it_n c7 h
        exact w_X12_reasonCount_35 C hr hSh σ6 h H locs ls S (lv_sub hl [] rfl)
    · have h := it_p c5 h
      refine lv_iconst (v := (1 : Int32)) hx hb dX12_reasonCount_23 (by decide) ?_
      refine lv_goto (tgt := 28) hx hb dX12_reasonCount_24 (by decide) ?_
      refine lv_iconst (v := (2 : Int32)) hx hb dX12_reasonCount_28 (by decide) ?_
      obtain ⟨a9, σ9, hc9, h⟩ := bd_el h
      refine x_callVI C S KX12 hx0 (ok_X12_throwsIf (L := L) hc9 hSh hx0) ⟨cd_X12_throwsIf, ni_RX12, ml_RX12_185, in_X12_throwsIf, sl_X12_throwsIf⟩ ⟨by decide, by decide⟩ rfl ⟨by decide, by decide⟩ hl.1 rfl (Nat.le_of_ble_eq_true rfl) ⟨by decide, by decide⟩ dX12_reasonCount_29 (fun H locs S => ?_)
      refine lv_if_eq (tgt := 39) hx hb dX12_reasonCount_32 (by decide) (fun c10 => ?_) (fun c10 => ?_)
      · have h := it_p c10 h
        refine lv_aload_n hx hb dX12_reasonCount_39 rfl (lv_at hl 0 rfl) ?_
        refine lv_iload_n hx hb dX12_reasonCount_40 rfl (lv_at hl 1 rfl) ?_
        refine lv_iload_n hx hb dX12_reasonCount_41 rfl (lv_at hl 2 rfl) ?_
        obtain ⟨a11, σ11, hc11, h⟩ := bd_el h
        refine x_callVI C S KX12 hx0 (ok_X12_countOf (L := L) hc11 hSh hx0) ⟨cd_X12_countOf, ni_RX12, ml_RX12_305, in_X12_countOf, sl_X12_countOf⟩ ⟨by decide, by decide⟩ rfl ⟨by decide, by decide⟩ hl.1 rfl (Nat.le_of_ble_eq_true rfl) ⟨by decide, by decide⟩ dX12_reasonCount_42 (fun H locs S => ?_)
        exact x_iret C S hr h dX12_reasonCount_45
      · have h := it_n c10 h
        exact w_X12_reasonCount_35 C hr hSh σ9 h H locs ls S (lv_sub hl [] rfl)
theorem dX12_allowedCount_0 : decode cX12_allowedCount 0 = .ok (.aload_n 0, 1) := by decide +kernel
theorem dX12_allowedCount_1 : decode cX12_allowedCount 1 = .ok (.iconst 0, 1) := by decide +kernel
theorem dX12_allowedCount_2 : decode cX12_allowedCount 2 = .ok (.putfield 3, 3) := by decide +kernel
theorem dX12_allowedCount_5 : decode cX12_allowedCount 5 = .ok (.aload_n 0, 1) := by decide +kernel
theorem dX12_allowedCount_6 : decode cX12_allowedCount 6 = .ok (.iload_n 1, 1) := by decide +kernel
theorem dX12_allowedCount_7 : decode cX12_allowedCount 7 = .ok (.invokevirtual 198, 3) := by decide +kernel
theorem dX12_allowedCount_10 : decode cX12_allowedCount 10 = .ok (.ifCond .eq 7, 3) := by decide +kernel
theorem dX12_allowedCount_13 : decode cX12_allowedCount 13 = .ok (.iconst 0, 1) := by decide +kernel
theorem dX12_allowedCount_14 : decode cX12_allowedCount 14 = .ok (.goto 9, 3) := by decide +kernel
theorem dX12_allowedCount_17 : decode cX12_allowedCount 17 = .ok (.aload_n 0, 1) := by decide +kernel
theorem dX12_allowedCount_18 : decode cX12_allowedCount 18 = .ok (.iload_n 1, 1) := by decide +kernel
theorem dX12_allowedCount_19 : decode cX12_allowedCount 19 = .ok (.iconst 0, 1) := by decide +kernel
theorem dX12_allowedCount_20 : decode cX12_allowedCount 20 = .ok (.invokevirtual 305, 3) := by decide +kernel
theorem dX12_allowedCount_23 : decode cX12_allowedCount 23 = .ok (.ireturn, 1) := by decide +kernel
def f_X12_allowedCount (N : Nat) (R : Nat → Nat → Nat) (σ : SI) (x0 : Nat) (x1 : Int32) : Option (Int32 × SI) := sq (up σ x0 0 (0 : Int32)) (fun σ1 => bd (f_X12_noBlast N R σ1 x0 x1) (fun a2 σ2 => if a2 = 0 then (bd (f_X12_countOf N R σ2 x0 x1 (0 : Int32)) (fun a4 σ4 => some (a4, σ4))) else (some ((0 : Int32), σ2))))
set_option maxHeartbeats 4000000 in
set_option maxRecDepth 100000 in
theorem ok_X12_allowedCount {l : Launch} {g : GL} {R : Nat → Nat → Nat} {L : Nat → Nat → Int64} {N : Nat} {σ : SI} {x0 : Nat} {x1 : Int32} {r : (Int32 × SI)} (h : f_X12_allowedCount N R σ x0 x1 = some r) (hSh : ShR R) (hx0 : Ok 194 x0 12) : Ct l g 10 yX12_allowedCount cX12_allowedCount 2 (some .int) 194 194 0 0 [.ref (gb g + x0), .int x1] (mkS σ R L) (PI R L r) := by
  refine Met.ofW (cc := cX12_allowedCount) (maxL := 2) (ret := (some .int)) (by decide) rfl ?_
  intro p e s m args below meth c s₁ B hml hv
  obtain ⟨rfl, hE, hLo, hWd⟩ := hv
  have hr : meth.sig.returnType = (some .int) := B.returns
  have C : Cx l g p s m meth c cX12_allowedCount 2 RX12 := ⟨B.exec, B.bytes, hml, findClass_of_methodNamed B.named, hE, hLo, B.notSynchronized⟩
  have S : S2 g s σ R L s.heap [] := ⟨hWd, va_S.rf⟩
  have hx := C.1
  have hb := C.2.1
  have hl := lv_entry ([.ref (gb g + x0), .int x1]) (n := 2) (Nat.le_of_ble_eq_true rfl)
  rw [lg_entry_eq]
  generalize (lg_sl ([.ref (gb g + x0), .int x1]) ++ List.replicate (2 - (lg_sl ([.ref (gb g + x0), .int x1])).length) Slot.unset).toArray = ls at hl ⊢
  have hl : lv_has ls 2 [(0, .ref (gb g + x0)), (1, .int x1)] := hl
  generalize hH : s.heap = H at S ⊢
  generalize hlc : ([] : List Loc) = locs at S ⊢
  rw [f_X12_allowedCount] at h
  refine lv_aload_n hx hb dX12_allowedCount_0 rfl (lv_at hl 0 rfl) ?_
  refine lv_iconst (v := (0 : Int32)) hx hb dX12_allowedCount_1 (by decide) ?_
  obtain ⟨σ1, hs1, h⟩ := sq_el h
  refine x_putI C S KX12 hx0 0 (by decide) rfl rfl rfl ⟨rfl, rfl⟩ fl_RX12_3 dX12_allowedCount_2 hs1 (fun H locs S => ?_)
  refine lv_aload_n hx hb dX12_allowedCount_5 rfl (lv_at hl 0 rfl) ?_
  refine lv_iload_n hx hb dX12_allowedCount_6 rfl (lv_at hl 1 rfl) ?_
  obtain ⟨a2, σ2, hc2, h⟩ := bd_el h
  refine x_callVI C S KX12 hx0 (ok_X12_noBlast (L := L) hc2 hSh hx0) ⟨cd_X12_noBlast, ni_RX12, ml_RX12_198, in_X12_noBlast, sl_X12_noBlast⟩ ⟨by decide, by decide⟩ rfl ⟨by decide, by decide⟩ hl.1 rfl (Nat.le_of_ble_eq_true rfl) ⟨by decide, by decide⟩ dX12_allowedCount_7 (fun H locs S => ?_)
  refine lv_if_eq (tgt := 17) hx hb dX12_allowedCount_10 (by decide) (fun c3 => ?_) (fun c3 => ?_)
  · have h := it_p c3 h
    refine lv_aload_n hx hb dX12_allowedCount_17 rfl (lv_at hl 0 rfl) ?_
    refine lv_iload_n hx hb dX12_allowedCount_18 rfl (lv_at hl 1 rfl) ?_
    refine lv_iconst (v := (0 : Int32)) hx hb dX12_allowedCount_19 (by decide) ?_
    obtain ⟨a4, σ4, hc4, h⟩ := bd_el h
    refine x_callVI C S KX12 hx0 (ok_X12_countOf (L := L) hc4 hSh hx0) ⟨cd_X12_countOf, ni_RX12, ml_RX12_305, in_X12_countOf, sl_X12_countOf⟩ ⟨by decide, by decide⟩ rfl ⟨by decide, by decide⟩ hl.1 rfl (Nat.le_of_ble_eq_true rfl) ⟨by decide, by decide⟩ dX12_allowedCount_20 (fun H locs S => ?_)
    exact x_iret C S hr h dX12_allowedCount_23
  · have h := it_n c3 h
    refine lv_iconst (v := (0 : Int32)) hx hb dX12_allowedCount_13 (by decide) ?_
    refine lv_goto (tgt := 23) hx hb dX12_allowedCount_14 (by decide) ?_
    exact x_iret C S hr h dX12_allowedCount_23
