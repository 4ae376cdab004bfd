theorem dX11_mostShaken_0 : decode cX11_mostShaken 0 = .ok (.aload_n 0, 1) := by decide +kernel
theorem dX11_mostShaken_1 : decode cX11_mostShaken 1 = .ok (.iload_n 1, 1) := by decide +kernel
theorem dX11_mostShaken_2 : decode cX11_mostShaken 2 = .ok (.invokevirtual 125, 3) := by decide +kernel
theorem dX11_mostShaken_5 : decode cX11_mostShaken 5 = .ok (.astore_n 2, 1) := by decide +kernel
theorem dX11_mostShaken_6 : decode cX11_mostShaken 6 = .ok (.iconst (-1), 1) := by decide +kernel
theorem dX11_mostShaken_7 : decode cX11_mostShaken 7 = .ok (.istore_n 3, 1) := by decide +kernel
theorem dX11_mostShaken_8 : decode cX11_mostShaken 8 = .ok (.iconst (-1), 1) := by decide +kernel
theorem dX11_mostShaken_9 : decode cX11_mostShaken 9 = .ok (.istore 4, 2) := by decide +kernel
theorem dX11_mostShaken_11 : decode cX11_mostShaken 11 = .ok (.iconst 0, 1) := by decide +kernel
theorem dX11_mostShaken_12 : decode cX11_mostShaken 12 = .ok (.istore 5, 2) := by decide +kernel
theorem dX11_mostShaken_14 : decode cX11_mostShaken 14 = .ok (.iload 5, 2) := by decide +kernel
theorem dX11_mostShaken_16 : decode cX11_mostShaken 16 = .ok (.aload_n 0, 1) := by decide +kernel
theorem dX11_mostShaken_17 : decode cX11_mostShaken 17 = .ok (.getfield 61, 3) := by decide +kernel
theorem dX11_mostShaken_20 : decode cX11_mostShaken 20 = .ok (.getfield 115, 3) := by decide +kernel
theorem dX11_mostShaken_23 : decode cX11_mostShaken 23 = .ok (.if_icmp .ge 35, 3) := by decide +kernel
theorem dX11_mostShaken_26 : decode cX11_mostShaken 26 = .ok (.aload_n 2, 1) := by decide +kernel
theorem dX11_mostShaken_27 : decode cX11_mostShaken 27 = .ok (.iload 5, 2) := by decide +kernel
theorem dX11_mostShaken_29 : decode cX11_mostShaken 29 = .ok (.aload_n 2, 1) := by decide +kernel
theorem dX11_mostShaken_30 : decode cX11_mostShaken 30 = .ok (.getfield 150, 3) := by decide +kernel
theorem dX11_mostShaken_33 : decode cX11_mostShaken 33 = .ok (.invokevirtual 160, 3) := by decide +kernel
theorem dX11_mostShaken_36 : decode cX11_mostShaken 36 = .ok (.istore 6, 2) := by decide +kernel
theorem dX11_mostShaken_38 : decode cX11_mostShaken 38 = .ok (.iload 6, 2) := by decide +kernel
theorem dX11_mostShaken_40 : decode cX11_mostShaken 40 = .ok (.iload 4, 2) := by decide +kernel
theorem dX11_mostShaken_42 : decode cX11_mostShaken 42 = .ok (.if_icmp .le 10, 3) := by decide +kernel
theorem dX11_mostShaken_45 : decode cX11_mostShaken 45 = .ok (.iload 6, 2) := by decide +kernel
theorem dX11_mostShaken_47 : decode cX11_mostShaken 47 = .ok (.istore 4, 2) := by decide +kernel
theorem dX11_mostShaken_49 : decode cX11_mostShaken 49 = .ok (.iload 5, 2) := by decide +kernel
theorem dX11_mostShaken_51 : decode cX11_mostShaken 51 = .ok (.istore_n 3, 1) := by decide +kernel
theorem dX11_mostShaken_52 : decode cX11_mostShaken 52 = .ok (.iinc 5 1, 3) := by decide +kernel
theorem dX11_mostShaken_55 : decode cX11_mostShaken 55 = .ok (.goto (-41), 3) := by decide +kernel
theorem dX11_mostShaken_58 : decode cX11_mostShaken 58 = .ok (.iload_n 3, 1) := by decide +kernel
theorem dX11_mostShaken_59 : decode cX11_mostShaken 59 = .ok (.ireturn, 1) := by decide +kernel
def f_X11_mostShaken_52 (N : Nat) (R : Nat → Nat → Nat) (k14 : SI → Nat → Nat → Int32 → Int32 → Int32 → Option ((Int32 ⊕ Nat) × SI)) (σ : SI) (x0 : Nat) (x2 : Nat) (x3 : Int32) (x4 : Int32) (x5 : Int32) : Option ((Int32 ⊕ Nat) × SI) := k14 σ x0 x2 x3 x4 (x5 + 1)
def f_X11_mostShaken_14 (N : Nat) (R : Nat → Nat → Nat) : Nat → SI → Nat → Nat → Int32 → Int32 → Int32 → Option ((Int32 ⊕ Nat) × SI)
  | 0, _, _, _, _, _, _ => none
  | n + 1, σ, x0, x2, x3, x4, x5 => if (σ (R x0 8) 9) ≤ x5 then (some (.inl x3, σ)) else (bd (f_X0_shakes N R σ x2 x5 (σ x2 8)) (fun a5 σ5 => if a5 ≤ x4 then (f_X11_mostShaken_52 N R (fun σ x0 x2 x3 x4 x5 => f_X11_mostShaken_14 N R n σ x0 x2 x3 x4 x5) σ5 x0 x2 x3 x4 x5) else (f_X11_mostShaken_52 N R (fun σ x0 x2 x3 x4 x5 => f_X11_mostShaken_14 N R n σ x0 x2 x3 x4 x5) σ5 x0 x2 x5 a5 x5)))
def f_X11_mostShaken (N : Nat) (R : Nat → Nat → Nat) (σ : SI) (x0 : Nat) (x1 : Int32) : Option ((Int32 ⊕ Nat) × SI) := bdX (f_X11_blastAt N R σ x0 x1) (fun a2 σ2 => f_X11_mostShaken_14 N R N σ2 x0 a2 (-1 : Int32) (-1 : Int32) (0 : Int32))
set_option maxHeartbeats 4000000 in
set_option maxRecDepth 100000 in
theorem w_X11_mostShaken_52 {l : Launch} {g : GL} {p : Program} {e : Jvm.Env} {s : State} {m : MethodId} {args : Array Value} {below : List Frame} {meth : Method} {c : Code} {R : Nat → Nat → Nat} {L : Nat → Nat → Int64} {r : ((Int32 ⊕ Nat) × SI)} {N : Nat} {k14 : SI → Nat → Nat → Int32 → Int32 → Int32 → Option ((Int32 ⊕ Nat) × SI)} (C : Cx l g p s m meth c cX11_mostShaken 7 RX11) (hr : meth.sig.returnType = (some .int)) (hT : ∀ x ∈ c.exceptionTable.toList, False) (hSh : ShR R) (hk14 : ∀ (σ : SI) (x0 : Nat) (x2 : Nat) (x3 : Int32) (x4 : Int32) (x5 : Int32), k14 σ x0 x2 x3 x4 x5 = some r → Ok 194 x0 11 → Ok 194 x2 0 → ∀ (H : Heap) (locs : List Loc) (ls : Array Slot), S2 g s σ R L H locs → lv_has ls 7 [(0, .ref (gb g + x0)), (2, .ref (gb g + x2)), (3, .int x3), (4, .int x4), (5, .int x5)] → W p l e (rmd 8 1 6) s m args below meth c H locs 1 (6 * 1) (vx_MQ below (Qg g 194 (PIX R L r)) (Xg g 194 (PX R L r)) args s 1 6 (gA g)) (F0 m 14 ls [])) : ∀ (σ : SI) (x0 : Nat) (x2 : Nat) (x3 : Int32) (x4 : Int32) (x5 : Int32), f_X11_mostShaken_52 N R k14 σ x0 x2 x3 x4 x5 = some r → Ok 194 x0 11 → Ok 194 x2 0 → ∀ (H : Heap) (locs : List Loc) (ls : Array Slot), S2 g s σ R L H locs → lv_has ls 7 [(0, .ref (gb g + x0)), (2, .ref (gb g + x2)), (3, .int x3), (4, .int x4), (5, .int x5)] → W p l e (rmd 8 1 6) s m args below meth c H locs 1 (6 * 1) (vx_MQ below (Qg g 194 (PIX R L r)) (Xg g 194 (PX R L r)) args s 1 6 (gA g)) (F0 m 52 ls []) := by
  have hx := C.1
  have hb := C.2.1
  intro σ x0 x2 x3 x4 x5 h hx0 hx2 H locs ls S hl
  rw [f_X11_mostShaken_52] at h
  refine lv_iinc (v := x5 + 1) (lv' := [(5, .int (x5 + 1)), (0, .ref (gb g + x0)), (2, .ref (gb g + x2)), (3, .int x3), (4, .int x4)]) hx hb dX11_mostShaken_52 hl (k := 4) rfl rfl (by decide) rfl (fun ls hl => ?_)
  refine lv_goto (tgt := 14) hx hb dX11_mostShaken_55 (by decide) ?_
  exact hk14 σ x0 x2 x3 x4 (x5 + 1) h hx0 hx2 H locs ls S (lv_sub hl [1, 2, 3, 4, 0] rfl)
set_option maxHeartbeats 4000000 in
set_option maxRecDepth 100000 in
theorem w_X11_mostShaken_14 {l : Launch} {g : GL} {p : Program} {e : Jvm.Env} {s : State} {m : MethodId} {args : Array Value} {below : List Frame} {meth : Method} {c : Code} {R : Nat → Nat → Nat} {L : Nat → Nat → Int64} {r : ((Int32 ⊕ Nat) × SI)} {N : Nat} (C : Cx l g p s m meth c cX11_mostShaken 7 RX11) (hr : meth.sig.returnType = (some .int)) (hT : ∀ x ∈ c.exceptionTable.toList, False) (hSh : ShR R) : ∀ (n : Nat) (σ : SI) (x0 : Nat) (x2 : Nat) (x3 : Int32) (x4 : Int32) (x5 : Int32), f_X11_mostShaken_14 N R n σ x0 x2 x3 x4 x5 = some r → Ok 194 x0 11 → Ok 194 x2 0 → ∀ (H : Heap) (locs : List Loc) (ls : Array Slot), S2 g s σ R L H locs → lv_has ls 7 [(0, .ref (gb g + x0)), (2, .ref (gb g + x2)), (3, .int x3), (4, .int x4), (5, .int x5)] → W p l e (rmd 8 1 6) s m args below meth c H locs 1 (6 * 1) (vx_MQ below (Qg g 194 (PIX R L r)) (Xg g 194 (PX R L r)) args s 1 6 (gA g)) (F0 m 14 ls []) := by
  have hx := C.1
  have hb := C.2.1
  intro n
  induction n with
  | zero =>
    intro σ x0 x2 x3 x4 x5 h
    cases (show (none : Option ((Int32 ⊕ Nat) × SI)) = some r from h)
  | succ n ih =>
    intro σ x0 x2 x3 x4 x5 h hx0 hx2 H locs ls S hl
    rw [f_X11_mostShaken_14] at h
    refine lv_iload hx hb dX11_mostShaken_14 (lv_at hl 4 rfl) ?_
    refine lv_aload_n hx hb dX11_mostShaken_16 rfl (lv_at hl 0 rfl) ?_
    have hR3 : Ok 194 (R x0 8) 9 := hSh x0 11 8 9 hx0.1 rfl
    refine x_getR C S KX11 hx0 8 (by decide) rfl rfl fl_RX11_61 hR3 dX11_mostShaken_17 ?_
    refine x_getI C S KX9 hR3 9 (by decide) rfl rfl fl_RX11_115 dX11_mostShaken_20 ?_
    refine lv_icmp_ge (tgt := 58) hx hb dX11_mostShaken_23 (by decide) (fun c4 => ?_) (fun c4 => ?_)
    · have h := it_p c4 h
      refine lv_iload_n hx hb dX11_mostShaken_58 rfl (lv_at hl 2 rfl) ?_
      exact x_iretX C S hr (by decide) (by decide) h dX11_mostShaken_59
    · have h := it_n c4 h
      refine lv_aload_n hx hb dX11_mostShaken_26 rfl (lv_at hl 1 rfl) ?_
      refine lv_iload hx hb dX11_mostShaken_27 (lv_at hl 4 rfl) ?_
      refine lv_aload_n hx hb dX11_mostShaken_29 rfl (lv_at hl 1 rfl) ?_
      refine x_getI C S KX0 hx2 8 (by decide) rfl rfl fl_RX11_150 dX11_mostShaken_30 ?_
      obtain ⟨a5, σ5, hc5, h⟩ := bd_el h
      refine x_callVI C S KX0 hx2 (ok_X0_shakes (L := L) hc5 hSh hx2) ⟨cd_X0_shakes, ni_RX0, ml_RX11_160, in_X0_shakes, sl_X0_shakes⟩ ⟨by decide, by decide⟩ rfl (rm_ok (by decide) (by decide)) hl.1 rfl (Nat.le_of_ble_eq_true rfl) ⟨by decide, by decide⟩ dX11_mostShaken_33 (fun H locs S => ?_)
      refine lv_istore (lv' := [(6, .int a5), (0, .ref (gb g + x0)), (2, .ref (gb g + x2)), (3, .int x3), (4, .int x4), (5, .int x5)]) hx hb dX11_mostShaken_36 hl (by decide) rfl (fun ls hl => ?_)
      refine lv_iload hx hb dX11_mostShaken_38 (lv_at hl 0 rfl) ?_
      refine lv_iload hx hb dX11_mostShaken_40 (lv_at hl 4 rfl) ?_
      refine lv_icmp_le (tgt := 52) hx hb dX11_mostShaken_42 (by decide) (fun c6 => ?_) (fun c6 => ?_)
      · have h := it_p c6 h
        exact w_X11_mostShaken_52 C hr hT hSh ih σ5 x0 x2 x3 x4 x5 h hx0 hx2 H locs ls S (lv_sub hl [1, 2, 3, 4, 5] rfl)
      · have h := it_n c6 h
        refine lv_iload hx hb dX11_mostShaken_45 (lv_at hl 0 rfl) ?_
        refine lv_istore (lv' := [(4, .int a5), (6, .int a5), (0, .ref (gb g + x0)), (2, .ref (gb g + x2)), (3, .int x3), (5, .int x5)]) hx hb dX11_mostShaken_47 hl (by decide) rfl (fun ls hl => ?_)
        refine lv_iload hx hb dX11_mostShaken_49 (lv_at hl 5 rfl) ?_
        refine lv_istore_n (lv' := [(3, .int x5), (4, .int a5), (6, .int a5), (0, .ref (gb g + x0)), (2, .ref (gb g + x2)), (5, .int x5)]) hx hb dX11_mostShaken_51 rfl hl (by decide) rfl (fun ls hl => ?_)
        exact w_X11_mostShaken_52 C hr hT hSh ih σ5 x0 x2 x5 a5 x5 h hx0 hx2 H locs ls S (lv_sub hl [3, 4, 0, 1, 5] rfl)
set_option maxHeartbeats 4000000 in
set_option maxRecDepth 100000 in
theorem ok_X11_mostShaken {l : Launch} {g : GL} {R : Nat → Nat → Nat} {L : Nat → Nat → Int64} {N : Nat} {σ : SI} {x0 : Nat} {x1 : Int32} {r : ((Int32 ⊕ Nat) × SI)} (h : f_X11_mostShaken N R σ x0 x1 = some r) (hSh : ShR R) (hx0 : Ok 194 x0 11) : CtX l g 8 yX11_mostShaken cX11_mostShaken 7 (some .int) 194 194 1 6 [.ref (gb g + x0), .int x1] (mkS σ R L) (PIX R L r) (PX R L r) := by
  refine vx_ofW (cc := cX11_mostShaken) (maxL := 7) (ret := (some .int)) (by decide) rfl ?_
  intro p e s m args below meth c s₁ B hml hT hv
  obtain ⟨rfl, hE, hLo, hWd⟩ := hv
  have hr : meth.sig.returnType = (some .int) := B.returns
  have C : Cx l g p s m meth c cX11_mostShaken 7 RX11 := ⟨B.exec, B.bytes, hml, findClass_of_methodNamed B.named, hE, hLo, B.notSynchronized⟩
  have S : S2 g s σ R L s.heap [] := ⟨hWd, va_S.rf⟩
  have hx := C.1
  have hb := C.2.1
  have hl := lv_entry ([.ref (gb g + x0), .int x1]) (n := 7) (Nat.le_of_ble_eq_true rfl)
  rw [lg_entry_eq]
  generalize (lg_sl ([.ref (gb g + x0), .int x1]) ++ List.replicate (7 - (lg_sl ([.ref (gb g + x0), .int x1])).length) Slot.unset).toArray = ls at hl ⊢
  have hl : lv_has ls 7 [(0, .ref (gb g + x0)), (1, .int x1)] := hl
  generalize hH : s.heap = H at S ⊢
  generalize hlc : ([] : List Loc) = locs at S ⊢
  rw [f_X11_mostShaken] at h
  refine lv_aload_n hx hb dX11_mostShaken_0 rfl (lv_at hl 0 rfl) ?_
  refine lv_iload_n hx hb dX11_mostShaken_1 rfl (lv_at hl 1 rfl) ?_
  rcases bdX_el h with ⟨a2, σ2, hc2, h⟩ | ⟨q2, σ2, hc2, hr2⟩
  · refine x_callXR C S KX11 hx0 (ok_X11_blastAt (L := L) hc2 hSh hx0) ⟨cd_X11_blastAt, ni_RX11, ml_RX11_125, in_X11_blastAt, sl_X11_blastAt⟩ ⟨by decide, by decide⟩ rfl (rm_ok (by decide) (by decide)) hl.1 rfl (Nat.le_of_ble_eq_true rfl) ⟨by decide, by decide⟩ dX11_mostShaken_2 hT ⟨by decide, by decide⟩ (fun H locs ho2 S => ?_)
    refine lv_astore_n (lv' := [(2, .ref (gb g + a2)), (0, .ref (gb g + x0)), (1, .int x1)]) hx hb dX11_mostShaken_5 rfl hl (by decide) rfl (fun ls hl => ?_)
    refine lv_iconst (v := (-1 : Int32)) hx hb dX11_mostShaken_6 (by decide) ?_
    refine lv_istore_n (lv' := [(3, .int (-1 : Int32)), (2, .ref (gb g + a2)), (0, .ref (gb g + x0)), (1, .int x1)]) hx hb dX11_mostShaken_7 rfl hl (by decide) rfl (fun ls hl => ?_)
    refine lv_iconst (v := (-1 : Int32)) hx hb dX11_mostShaken_8 (by decide) ?_
    refine lv_istore (lv' := [(4, .int (-1 : Int32)), (3, .int (-1 : Int32)), (2, .ref (gb g + a2)), (0, .ref (gb g + x0)), (1, .int x1)]) hx hb dX11_mostShaken_9 hl (by decide) rfl (fun ls hl => ?_)
    refine lv_iconst (v := (0 : Int32)) hx hb dX11_mostShaken_11 (by decide) ?_
    refine lv_istore (lv' := [(5, .int (0 : Int32)), (4, .int (-1 : Int32)), (3, .int (-1 : Int32)), (2, .ref (gb g + a2)), (0, .ref (gb g + x0)), (1, .int x1)]) hx hb dX11_mostShaken_12 hl (by decide) rfl (fun ls hl => ?_)
    exact w_X11_mostShaken_14 C hr hT hSh N σ2 x0 a2 (-1 : Int32) (-1 : Int32) (0 : Int32) h hx0 ho2 H locs ls S (lv_sub hl [4, 3, 2, 1, 0] rfl)
  · exact x_callXX C S KX11 hx0 (ok_X11_blastAt (L := L) hc2 hSh hx0) n_PRX ⟨cd_X11_blastAt, ni_RX11, ml_RX11_125, in_X11_blastAt, sl_X11_blastAt⟩ ⟨by decide, by decide⟩ rfl (rm_ok (by decide) (by decide)) hl.1 rfl (Nat.le_of_ble_eq_true rfl) ⟨by decide, by decide⟩ dX11_mostShaken_2 hT ⟨by decide, by decide⟩ hr2
theorem dX11_tooStrongAt_0 : decode cX11_tooStrongAt 0 = .ok (.aload_n 0, 1) := by decide +kernel
theorem dX11_tooStrongAt_1 : decode cX11_tooStrongAt 1 = .ok (.iload_n 1, 1) := by decide +kernel
theorem dX11_tooStrongAt_2 : decode cX11_tooStrongAt 2 = .ok (.invokevirtual 125, 3) := by decide +kernel
theorem dX11_tooStrongAt_5 : decode cX11_tooStrongAt 5 = .ok (.getfield 164, 3) := by decide +kernel
theorem dX11_tooStrongAt_8 : decode cX11_tooStrongAt 8 = .ok (.ireturn, 1) := by decide +kernel
def f_X11_tooStrongAt (N : Nat) (R : Nat → Nat → Nat) (σ : SI) (x0 : Nat) (x1 : Int32) : Option ((Int32 ⊕ Nat) × SI) := bdX (f_X11_blastAt N R σ x0 x1) (fun a2 σ2 => some (.inl (σ2 a2 10), σ2))
set_option maxHeartbeats 4000000 in
set_option maxRecDepth 100000 in
theorem ok_X11_tooStrongAt {l : Launch} {g : GL} {R : Nat → Nat → Nat} {L : Nat → Nat → Int64} {N : Nat} {σ : SI} {x0 : Nat} {x1 : Int32} {r : ((Int32 ⊕ Nat) × SI)} (h : f_X11_tooStrongAt N R σ x0 x1 = some r) (hSh : ShR R) (hx0 : Ok 194 x0 11) : CtX l g 8 yX11_tooStrongAt cX11_tooStrongAt 2 (some .int) 194 194 1 6 [.ref (gb g + x0), .int x1] (mkS σ R L) (PIX R L r) (PX R L r) := by
  refine vx_ofW (cc := cX11_tooStrongAt) (maxL := 2) (ret := (some .int)) (by decide) rfl ?_
  intro p e s m args below meth c s₁ B hml hT hv
  obtain ⟨rfl, hE, hLo, hWd⟩ := hv
  have hr : meth.sig.returnType = (some .int) := B.returns
  have C : Cx l g p s m meth c cX11_tooStrongAt 2 RX11 := ⟨B.exec, B.bytes, hml, findClass_of_methodNamed B.named, hE, hLo, B.notSynchronized⟩
  have S : S2 g s σ R L s.heap [] := ⟨hWd, va_S.rf⟩
  have hx := C.1
  have hb := C.2.1
  have hl := lv_entry ([.ref (gb g + x0), .int x1]) (n := 2) (Nat.le_of_ble_eq_true rfl)
  rw [lg_entry_eq]
  generalize (lg_sl ([.ref (gb g + x0), .int x1]) ++ List.replicate (2 - (lg_sl ([.ref (gb g + x0), .int x1])).length) Slot.unset).toArray = ls at hl ⊢
  have hl : lv_has ls 2 [(0, .ref (gb g + x0)), (1, .int x1)] := hl
  generalize hH : s.heap = H at S ⊢
  generalize hlc : ([] : List Loc) = locs at S ⊢
  rw [f_X11_tooStrongAt] at h
  refine lv_aload_n hx hb dX11_tooStrongAt_0 rfl (lv_at hl 0 rfl) ?_
  refine lv_iload_n hx hb dX11_tooStrongAt_1 rfl (lv_at hl 1 rfl) ?_
  rcases bdX_el h with ⟨a2, σ2, hc2, h⟩ | ⟨q2, σ2, hc2, hr2⟩
  · refine x_callXR C S KX11 hx0 (ok_X11_blastAt (L := L) hc2 hSh hx0) ⟨cd_X11_blastAt, ni_RX11, ml_RX11_125, in_X11_blastAt, sl_X11_blastAt⟩ ⟨by decide, by decide⟩ rfl (rm_ok (by decide) (by decide)) hl.1 rfl (Nat.le_of_ble_eq_true rfl) ⟨by decide, by decide⟩ dX11_tooStrongAt_2 hT ⟨by decide, by decide⟩ (fun H locs ho2 S => ?_)
    refine x_getI C S KX0 ho2 10 (by decide) rfl rfl fl_RX11_164 dX11_tooStrongAt_5 ?_
    exact x_iretX C S hr (by decide) (by decide) h dX11_tooStrongAt_8
  · exact x_callXX C S KX11 hx0 (ok_X11_blastAt (L := L) hc2 hSh hx0) n_PRX ⟨cd_X11_blastAt, ni_RX11, ml_RX11_125, in_X11_blastAt, sl_X11_blastAt⟩ ⟨by decide, by decide⟩ rfl (rm_ok (by decide) (by decide)) hl.1 rfl (Nat.le_of_ble_eq_true rfl) ⟨by decide, by decide⟩ dX11_tooStrongAt_2 hT ⟨by decide, by decide⟩ hr2
theorem dX11_neededGap_0 : decode cX11_neededGap 0 = .ok (.aload_n 0, 1) := by decide +kernel
theorem dX11_neededGap_1 : decode cX11_neededGap 1 = .ok (.iload_n 1, 1) := by decide +kernel
theorem dX11_neededGap_2 : decode cX11_neededGap 2 = .ok (.invokevirtual 125, 3) := by decide +kernel
theorem dX11_neededGap_5 : decode cX11_neededGap 5 = .ok (.astore_n 3, 1) := by decide +kernel
theorem dX11_neededGap_6 : decode cX11_neededGap 6 = .ok (.aload_n 0, 1) := by decide +kernel
theorem dX11_neededGap_7 : decode cX11_neededGap 7 = .ok (.iload_n 2, 1) := by decide +kernel
theorem dX11_neededGap_8 : decode cX11_neededGap 8 = .ok (.invokevirtual 156, 3) := by decide +kernel
theorem dX11_neededGap_11 : decode cX11_neededGap 11 = .ok (.getfield 167, 3) := by decide +kernel
theorem dX11_neededGap_14 : decode cX11_neededGap 14 = .ok (.istore 4, 2) := by decide +kernel
theorem dX11_neededGap_16 : decode cX11_neededGap 16 = .ok (.iconst 0, 1) := by decide +kernel
theorem dX11_neededGap_17 : decode cX11_neededGap 17 = .ok (.istore 5, 2) := by decide +kernel
theorem dX11_neededGap_19 : decode cX11_neededGap 19 = .ok (.iload 5, 2) := by decide +kernel
theorem dX11_neededGap_21 : decode cX11_neededGap 21 = .ok (.sipush 200, 3) := by decide +kernel
theorem dX11_neededGap_24 : decode cX11_neededGap 24 = .ok (.if_icmp .gt 28, 3) := by decide +kernel
theorem dX11_neededGap_27 : decode cX11_neededGap 27 = .ok (.aload_n 3, 1) := by decide +kernel
theorem dX11_neededGap_28 : decode cX11_neededGap 28 = .ok (.iload_n 2, 1) := by decide +kernel
theorem dX11_neededGap_29 : decode cX11_neededGap 29 = .ok (.aload_n 3, 1) := by decide +kernel
theorem dX11_neededGap_30 : decode cX11_neededGap 30 = .ok (.iload 5, 2) := by decide +kernel
theorem dX11_neededGap_32 : decode cX11_neededGap 32 = .ok (.invokevirtual 172, 3) := by decide +kernel
theorem dX11_neededGap_35 : decode cX11_neededGap 35 = .ok (.invokevirtual 160, 3) := by decide +kernel
theorem dX11_neededGap_38 : decode cX11_neededGap 38 = .ok (.iload 4, 2) := by decide +kernel
theorem dX11_neededGap_40 : decode cX11_neededGap 40 = .ok (.if_icmp .gt 6, 3) := by decide +kernel
theorem dX11_neededGap_43 : decode cX11_neededGap 43 = .ok (.iload 5, 2) := by decide +kernel
theorem dX11_neededGap_45 : decode cX11_neededGap 45 = .ok (.ireturn, 1) := by decide +kernel
theorem dX11_neededGap_46 : decode cX11_neededGap 46 = .ok (.iinc 5 1, 3) := by decide +kernel
theorem dX11_neededGap_49 : decode cX11_neededGap 49 = .ok (.goto (-30), 3) := by decide +kernel
theorem dX11_neededGap_52 : decode cX11_neededGap 52 = .ok (.iconst (-1), 1) := by decide +kernel
theorem dX11_neededGap_53 : decode cX11_neededGap 53 = .ok (.ireturn, 1) := by decide +kernel
def f_X11_neededGap_19 (N : Nat) (R : Nat → Nat → Nat) : Nat → SI → Int32 → Nat → Int32 → Int32 → Option ((Int32 ⊕ Nat) × SI)
  | 0, _, _, _, _, _ => none
  | n + 1, σ, x2, x3, x4, x5 => if (200 : Int32) < x5 then (some (.inl (-1 : Int32), σ)) else (bd (f_X0_windowIfGap N R σ x3 x5) (fun a6 σ6 => bd (f_X0_shakes N R σ6 x3 x2 a6) (fun a7 σ7 => if x4 < a7 then (f_X11_neededGap_19 N R n σ7 x2 x3 x4 (x5 + 1)) else (some (.inl x5, σ7)))))
def f_X11_neededGap (N : Nat) (R : Nat → Nat → Nat) (σ : SI) (x0 : Nat) (x1 : Int32) (x2 : Int32) : Option ((Int32 ⊕ Nat) × SI) := bdX (f_X11_blastAt N R σ x0 x1) (fun a2 σ2 => bdX (f_X11_neighbourAt N R σ2 x0 x2) (fun a4 σ4 => f_X11_neededGap_19 N R N σ4 x2 a2 (σ4 a4 4) (0 : Int32)))
set_option maxHeartbeats 4000000 in
set_option maxRecDepth 100000 in
theorem w_X11_neededGap_19 {l : Launch} {g : GL} {p : Program} {e : Jvm.Env} {s : State} {m : MethodId} {args : Array Value} {below : List Frame} {meth : Method} {c : Code} {R : Nat → Nat → Nat} {L : Nat → Nat → Int64} {r : ((Int32 ⊕ Nat) × SI)} {N : Nat} (C : Cx l g p s m meth c cX11_neededGap 6 RX11) (hr : meth.sig.returnType = (some .int)) (hT : ∀ x ∈ c.exceptionTable.toList, False) (hSh : ShR R) : ∀ (n : Nat) (σ : SI) (x2 : Int32) (x3 : Nat) (x4 : Int32) (x5 : Int32), f_X11_neededGap_19 N R n σ x2 x3 x4 x5 = some r → Ok 194 x3 0 → ∀ (H : Heap) (locs : List Loc) (ls : Array Slot), S2 g s σ R L H locs → lv_has ls 6 [(2, .int x2), (3, .ref (gb g + x3)), (4, .int x4), (5, .int x5)] → W p l e (rmd 8 2 12) s m args below meth c H locs 2 (6 * 2) (vx_MQ below (Qg g 194 (PIX R L r)) (Xg g 194 (PX R L r)) args s 2 12 (gA g)) (F0 m 19 ls []) := by
  have hx := C.1
  have hb := C.2.1
  intro n
  induction n with
  | zero =>
    intro σ x2 x3 x4 x5 h
    cases (show (none : Option ((Int32 ⊕ Nat) × SI)) = some r from h)
  | succ n ih =>
    intro σ x2 x3 x4 x5 h hx3 H locs ls S hl
    rw [f_X11_neededGap_19] at h
    refine lv_iload hx hb dX11_neededGap_19 (lv_at hl 3 rfl) ?_
    refine lv_sipush (v := (200 : Int32)) hx hb dX11_neededGap_21 (by decide) ?_
    refine lv_icmp_gt (tgt := 52) hx hb dX11_neededGap_24 (by decide) (fun c5 => ?_) (fun c5 => ?_)
    · have h := it_p c5 h
      refine lv_iconst (v := (-1 : Int32)) hx hb dX11_neededGap_52 (by decide) ?_
      exact x_iretX C S hr (by decide) (by decide) h dX11_neededGap_53
    · have h := it_n c5 h
      refine lv_aload_n hx hb dX11_neededGap_27 rfl (lv_at hl 1 rfl) ?_
      refine lv_iload_n hx hb dX11_neededGap_28 rfl (lv_at hl 0 rfl) ?_
      refine lv_aload_n hx hb dX11_neededGap_29 rfl (lv_at hl 1 rfl) ?_
      refine lv_iload hx hb dX11_neededGap_30 (lv_at hl 3 rfl) ?_
      obtain ⟨a6, σ6, hc6, h⟩ := bd_el h
      refine x_callVI C S KX0 hx3 (ok_X0_windowIfGap (L := L) hc6 hSh hx3) ⟨cd_X0_windowIfGap, ni_RX0, ml_RX11_172, in_X0_windowIfGap, sl_X0_windowIfGap⟩ ⟨by decide, by decide⟩ rfl (rm_ok (by decide) (by decide)) hl.1 rfl (Nat.le_of_ble_eq_true rfl) ⟨by decide, by decide⟩ dX11_neededGap_32 (fun H locs S => ?_)
      obtain ⟨a7, σ7, hc7, h⟩ := bd_el h
      refine x_callVI C S KX0 hx3 (ok_X0_shakes (L := L) hc7 hSh hx3) ⟨cd_X0_shakes, ni_RX0, ml_RX11_160, in_X0_shakes, sl_X0_shakes⟩ ⟨by decide, by decide⟩ rfl (rm_ok (by decide) (by decide)) hl.1 rfl (Nat.le_of_ble_eq_true rfl) ⟨by decide, by decide⟩ dX11_neededGap_35 (fun H locs S => ?_)
      refine lv_iload hx hb dX11_neededGap_38 (lv_at hl 2 rfl) ?_
      refine lv_icmp_gt (tgt := 46) hx hb dX11_neededGap_40 (by decide) (fun c8 => ?_) (fun c8 => ?_)
      · have h := it_p c8 h
        refine lv_iinc (v := x5 + 1) (lv' := [(5, .int (x5 + 1)), (2, .int x2), (3, .ref (gb g + x3)), (4, .int x4)]) hx hb dX11_neededGap_46 hl (k := 3) rfl rfl (by decide) rfl (fun ls hl => ?_)
        refine lv_goto (tgt := 19) hx hb dX11_neededGap_49 (by decide) ?_
        exact ih σ7 x2 x3 x4 (x5 + 1) h hx3 H locs ls S (lv_sub hl [1, 2, 3, 0] rfl)
      · have h := it_n c8 h
        refine lv_iload hx hb dX11_neededGap_43 (lv_at hl 3 rfl) ?_
        exact x_iretX C S hr (by decide) (by decide) h dX11_neededGap_45
set_option maxHeartbeats 4000000 in
set_option maxRecDepth 100000 in
theorem ok_X11_neededGap {l : Launch} {g : GL} {R : Nat → Nat → Nat} {L : Nat → Nat → Int64} {N : Nat} {σ : SI} {x0 : Nat} {x1 : Int32} {x2 : Int32} {r : ((Int32 ⊕ Nat) × SI)} (h : f_X11_neededGap N R σ x0 x1 x2 = some r) (hSh : ShR R) (hx0 : Ok 194 x0 11) : CtX l g 8 yX11_neededGap cX11_neededGap 6 (some .int) 194 194 2 12 [.ref (gb g + x0), .int x1, .int x2] (mkS σ R L) (PIX R L r) (PX R L r) := by
  refine vx_ofW (cc := cX11_neededGap) (maxL := 6) (ret := (some .int)) (by decide) rfl ?_
  intro p e s m args below meth c s₁ B hml hT hv
  obtain ⟨rfl, hE, hLo, hWd⟩ := hv
  have hr : meth.sig.returnType = (some .int) := B.returns
  have C : Cx l g p s m meth c cX11_neededGap 6 RX11 := ⟨B.exec, B.bytes, hml, findClass_of_methodNamed B.named, hE, hLo, B.notSynchronized⟩
  have S : S2 g s σ R L s.heap [] := ⟨hWd, va_S.rf⟩
  have hx := C.1
  have hb := C.2.1
  have hl := lv_entry ([.ref (gb g + x0), .int x1, .int x2]) (n := 6) (Nat.le_of_ble_eq_true rfl)
  rw [lg_entry_eq]
  generalize (lg_sl ([.ref (gb g + x0), .int x1, .int x2]) ++ List.replicate (6 - (lg_sl ([.ref (gb g + x0), .int x1, .int x2])).length) Slot.unset).toArray = ls at hl ⊢
  have hl : lv_has ls 6 [(0, .ref (gb g + x0)), (1, .int x1), (2, .int x2)] := hl
  generalize hH : s.heap = H at S ⊢
  generalize hlc : ([] : List Loc) = locs at S ⊢
  rw [f_X11_neededGap] at h
  refine lv_aload_n hx hb dX11_neededGap_0 rfl (lv_at hl 0 rfl) ?_
  refine lv_iload_n hx hb dX11_neededGap_1 rfl (lv_at hl 1 rfl) ?_
  rcases bdX_el h with ⟨a2, σ2, hc2, h⟩ | ⟨q2, σ2, hc2, hr2⟩
  · refine x_callXR C S KX11 hx0 (ok_X11_blastAt (L := L) hc2 hSh hx0) ⟨cd_X11_blastAt, ni_RX11, ml_RX11_125, in_X11_blastAt, sl_X11_blastAt⟩ ⟨by decide, by decide⟩ rfl (rm_ok (by decide) (by decide)) hl.1 rfl (Nat.le_of_ble_eq_true rfl) ⟨by decide, by decide⟩ dX11_neededGap_2 hT ⟨by decide, by decide⟩ (fun H locs ho2 S => ?_)
    refine lv_astore_n (lv' := [(3, .ref (gb g + a2)), (0, .ref (gb g + x0)), (1, .int x1), (2, .int x2)]) hx hb dX11_neededGap_5 rfl hl (by decide) rfl (fun ls hl => ?_)
    refine lv_aload_n hx hb dX11_neededGap_6 rfl (lv_at hl 1 rfl) ?_
    refine lv_iload_n hx hb dX11_neededGap_7 rfl (lv_at hl 3 rfl) ?_
    rcases bdX_el h with ⟨a4, σ4, hc4, h⟩ | ⟨q4, σ4, hc4, hr4⟩
    · refine x_callXR C S KX11 hx0 (ok_X11_neighbourAt (L := L) hc4 hSh hx0) ⟨cd_X11_neighbourAt, ni_RX11, ml_RX11_156, in_X11_neighbourAt, sl_X11_neighbourAt⟩ ⟨by decide, by decide⟩ rfl (rm_ok (by decide) (by decide)) hl.1 rfl (Nat.le_of_ble_eq_true rfl) ⟨by decide, by decide⟩ dX11_neededGap_8 hT ⟨by decide, by decide⟩ (fun H locs ho4 S => ?_)
      refine x_getI C S KX4 ho4 4 (by decide) rfl rfl fl_RX11_167 dX11_neededGap_11 ?_
      refine lv_istore (lv' := [(4, .int (σ4 a4 4)), (3, .ref (gb g + a2)), (0, .ref (gb g + x0)), (1, .int x1), (2, .int x2)]) hx hb dX11_neededGap_14 hl (by decide) rfl (fun ls hl => ?_)
      refine lv_iconst (v := (0 : Int32)) hx hb dX11_neededGap_16 (by decide) ?_
      refine lv_istore (lv' := [(5, .int (0 : Int32)), (4, .int (σ4 a4 4)), (3, .ref (gb g + a2)), (0, .ref (gb g + x0)), (1, .int x1), (2, .int x2)]) hx hb dX11_neededGap_17 hl (by decide) rfl (fun ls hl => ?_)
      exact w_X11_neededGap_19 C hr hT hSh N σ4 x2 a2 (σ4 a4 4) (0 : Int32) h ho2 H locs ls S (lv_sub hl [5, 2, 1, 0] rfl)
    · exact x_callXX C S KX11 hx0 (ok_X11_neighbourAt (L := L) hc4 hSh hx0) n_PRX ⟨cd_X11_neighbourAt, ni_RX11, ml_RX11_156, in_X11_neighbourAt, sl_X11_neighbourAt⟩ ⟨by decide, by decide⟩ rfl (rm_ok (by decide) (by decide)) hl.1 rfl (Nat.le_of_ble_eq_true rfl) ⟨by decide, by decide⟩ dX11_neededGap_8 hT ⟨by decide, by decide⟩ hr4
  · exact x_callXX C S KX11 hx0 (ok_X11_blastAt (L := L) hc2 hSh hx0) n_PRX ⟨cd_X11_blastAt, ni_RX11, ml_RX11_125, in_X11_blastAt, sl_X11_blastAt⟩ ⟨by decide, by decide⟩ rfl (rm_ok (by decide) (by decide)) hl.1 rfl (Nat.le_of_ble_eq_true rfl) ⟨by decide, by decide⟩ dX11_neededGap_2 hT ⟨by decide, by decide⟩ hr2
theorem dX11_vibrationIfGap_0 : decode cX11_vibrationIfGap 0 = .ok (.aload_n 0, 1) := by decide +kernel
theorem dX11_vibrationIfGap_1 : decode cX11_vibrationIfGap 1 = .ok (.iload_n 1, 1) := by decide +kernel
theorem dX11_vibrationIfGap_2 : decode cX11_vibrationIfGap 2 = .ok (.invokevirtual 125, 3) := by decide +kernel
theorem dX11_vibrationIfGap_5 : decode cX11_vibrationIfGap 5 = .ok (.astore 4, 2) := by decide +kernel
theorem dX11_vibrationIfGap_7 : decode cX11_vibrationIfGap 7 = .ok (.aload_n 0, 1) := by decide +kernel
theorem dX11_vibrationIfGap_8 : decode cX11_vibrationIfGap 8 = .ok (.iload_n 2, 1) := by decide +kernel
theorem dX11_vibrationIfGap_9 : decode cX11_vibrationIfGap 9 = .ok (.invokevirtual 156, 3) := by decide +kernel
theorem dX11_vibrationIfGap_12 : decode cX11_vibrationIfGap 12 = .ok (.pop, 1) := by decide +kernel
theorem dX11_vibrationIfGap_13 : decode cX11_vibrationIfGap 13 = .ok (.aload_n 0, 1) := by decide +kernel
theorem dX11_vibrationIfGap_14 : decode cX11_vibrationIfGap 14 = .ok (.iload_n 3, 1) := by decide +kernel
theorem dX11_vibrationIfGap_15 : decode cX11_vibrationIfGap 15 = .ok (.iconst 0, 1) := by decide +kernel
theorem dX11_vibrationIfGap_16 : decode cX11_vibrationIfGap 16 = .ok (.sipush 800, 3) := by decide +kernel
theorem dX11_vibrationIfGap_19 : decode cX11_vibrationIfGap 19 = .ok (.invokevirtual 176, 3) := by decide +kernel
theorem dX11_vibrationIfGap_22 : decode cX11_vibrationIfGap 22 = .ok (.aload 4, 2) := by decide +kernel
theorem dX11_vibrationIfGap_24 : decode cX11_vibrationIfGap 24 = .ok (.iload_n 2, 1) := by decide +kernel
theorem dX11_vibrationIfGap_25 : decode cX11_vibrationIfGap 25 = .ok (.aload 4, 2) := by decide +kernel
theorem dX11_vibrationIfGap_27 : decode cX11_vibrationIfGap 27 = .ok (.iload_n 3, 1) := by decide +kernel
theorem dX11_vibrationIfGap_28 : decode cX11_vibrationIfGap 28 = .ok (.invokevirtual 172, 3) := by decide +kernel
theorem dX11_vibrationIfGap_31 : decode cX11_vibrationIfGap 31 = .ok (.invokevirtual 160, 3) := by decide +kernel
theorem dX11_vibrationIfGap_34 : decode cX11_vibrationIfGap 34 = .ok (.ireturn, 1) := by decide +kernel
def f_X11_vibrationIfGap (N : Nat) (R : Nat → Nat → Nat) (σ : SI) (x0 : Nat) (x1 : Int32) (x2 : Int32) (x3 : Int32) : Option ((Int32 ⊕ Nat) × SI) := bdX (f_X11_blastAt N R σ x0 x1) (fun a2 σ2 => bdX (f_X11_neighbourAt N R σ2 x0 x2) (fun a4 σ4 => bdX (f_X11_needRange N R σ4 x0 x3 (0 : Int32) (800 : Int32)) (fun _ σ6 => bd (f_X0_windowIfGap N R σ6 a2 x3) (fun a7 σ7 => bd (f_X0_shakes N R σ7 a2 x2 a7) (fun a8 σ8 => some (.inl a8, σ8))))))
set_option maxHeartbeats 4000000 in
set_option maxRecDepth 100000 in
theorem ok_X11_vibrationIfGap {l : Launch} {g : GL} {R : Nat → Nat → Nat} {L : Nat → Nat → Int64} {N : Nat} {σ : SI} {x0 : Nat} {x1 : Int32} {x2 : Int32} {x3 : Int32} {r : ((Int32 ⊕ Nat) × SI)} (h : f_X11_vibrationIfGap N R σ x0 x1 x2 x3 = some r) (hSh : ShR R) (hx0 : Ok 194 x0 11) : CtX l g 8 yX11_vibrationIfGap cX11_vibrationIfGap 5 (some .int) 194 194 3 18 [.ref (gb g + x0), .int x1, .int x2, .int x3] (mkS σ R L) (PIX R L r) (PX R L r) := by
  refine vx_ofW (cc := cX11_vibrationIfGap) (maxL := 5) (ret := (some .int)) (by decide) rfl ?_
  intro p e s m args below meth c s₁ B hml hT hv
  obtain ⟨rfl, hE, hLo, hWd⟩ := hv
  have hr : meth.sig.returnType = (some .int) := B.returns
  have C : Cx l g p s m meth c cX11_vibrationIfGap 5 RX11 := ⟨B.exec, B.bytes, hml, findClass_of_methodNamed B.named, hE, hLo, B.notSynchronized⟩
  have S : S2 g s σ R L s.heap [] := ⟨hWd, va_S.rf⟩
  have hx := C.1
  have hb := C.2.1
  have hl := lv_entry ([.ref (gb g + x0), .int x1, .int x2, .int x3]) (n := 5) (Nat.le_of_ble_eq_true rfl)
  rw [lg_entry_eq]
  generalize (lg_sl ([.ref (gb g + x0), .int x1, .int x2, .int x3]) ++ List.replicate (5 - (lg_sl ([.ref (gb g + x0), .int x1, .int x2, .int x3])).length) Slot.unset).toArray = ls at hl ⊢
  have hl : lv_has ls 5 [(0, .ref (gb g + x0)), (1, .int x1), (2, .int x2), (3, .int x3)] := hl
  generalize hH : s.heap = H at S ⊢
  generalize hlc : ([] : List Loc) = locs at S ⊢
  rw [f_X11_vibrationIfGap] at h
  refine lv_aload_n hx hb dX11_vibrationIfGap_0 rfl (lv_at hl 0 rfl) ?_
  refine lv_iload_n hx hb dX11_vibrationIfGap_1 rfl (lv_at hl 1 rfl) ?_
  rcases bdX_el h with ⟨a2, σ2, hc2, h⟩ | ⟨q2, σ2, hc2, hr2⟩
  · refine x_callXR C S KX11 hx0 (ok_X11_blastAt (L := L) hc2 hSh hx0) ⟨cd_X11_blastAt, ni_RX11, ml_RX11_125, in_X11_blastAt, sl_X11_blastAt⟩ ⟨by decide, by decide⟩ rfl (rm_ok (by decide) (by decide)) hl.1 rfl (Nat.le_of_ble_eq_true rfl) ⟨by decide, by decide⟩ dX11_vibrationIfGap_2 hT ⟨by decide, by decide⟩ (fun H locs ho2 S => ?_)
    refine lv_astore (lv' := [(4, .ref (gb g + a2)), (0, .ref (gb g + x0)), (1, .int x1), (2, .int x2), (3, .int x3)]) hx hb dX11_vibrationIfGap_5 hl (by decide) rfl (fun ls hl => ?_)
    refine lv_aload_n hx hb dX11_vibrationIfGap_7 rfl (lv_at hl 1 rfl) ?_
    refine lv_iload_n hx hb dX11_vibrationIfGap_8 rfl (lv_at hl 3 rfl) ?_
    rcases bdX_el h with ⟨a4, σ4, hc4, h⟩ | ⟨q4, σ4, hc4, hr4⟩
    · refine x_callXR C S KX11 hx0 (ok_X11_neighbourAt (L := L) hc4 hSh hx0) ⟨cd_X11_neighbourAt, ni_RX11, ml_RX11_156, in_X11_neighbourAt, sl_X11_neighbourAt⟩ ⟨by decide, by decide⟩ rfl (rm_ok (by decide) (by decide)) hl.1 rfl (Nat.le_of_ble_eq_true rfl) ⟨by decide, by decide⟩ dX11_vibrationIfGap_9 hT ⟨by decide, by decide⟩ (fun H locs ho4 S => ?_)
      refine lv_pop hx hb dX11_vibrationIfGap_12 rfl ?_
      refine lv_aload_n hx hb dX11_vibrationIfGap_13 rfl (lv_at hl 1 rfl) ?_
      refine lv_iload_n hx hb dX11_vibrationIfGap_14 rfl (lv_at hl 4 rfl) ?_
      refine lv_iconst (v := (0 : Int32)) hx hb dX11_vibrationIfGap_15 (by decide) ?_
      refine lv_sipush (v := (800 : Int32)) hx hb dX11_vibrationIfGap_16 (by decide) ?_
      rcases bdX_el h with ⟨a6, σ6, hc6, h⟩ | ⟨q6, σ6, hc6, hr6⟩
      · refine x_callXV C S KX11 hx0 (ok_X11_needRange (L := L) hc6 hSh hx0) ⟨cd_X11_needRange, ni_RX11, ml_RX11_176, in_X11_needRange, sl_X11_needRange⟩ ⟨by decide, by decide⟩ rfl (rm_ok (by decide) (by decide)) hl.1 rfl (Nat.le_of_ble_eq_true rfl) ⟨by decide, by decide⟩ dX11_vibrationIfGap_19 hT ⟨by decide, by decide⟩ (fun H locs S => ?_)
        refine lv_aload hx hb dX11_vibrationIfGap_22 (lv_at hl 0 rfl) ?_
        refine lv_iload_n hx hb dX11_vibrationIfGap_24 rfl (lv_at hl 3 rfl) ?_
        refine lv_aload hx hb dX11_vibrationIfGap_25 (lv_at hl 0 rfl) ?_
        refine lv_iload_n hx hb dX11_vibrationIfGap_27 rfl (lv_at hl 4 rfl) ?_
        obtain ⟨a7, σ7, hc7, h⟩ := bd_el h
        refine x_callVI C S KX0 ho2 (ok_X0_windowIfGap (L := L) hc7 hSh ho2) ⟨cd_X0_windowIfGap, ni_RX0, ml_RX11_172, in_X0_windowIfGap, sl_X0_windowIfGap⟩ ⟨by decide, by decide⟩ rfl (rm_ok (by decide) (by decide)) hl.1 rfl (Nat.le_of_ble_eq_true rfl) ⟨by decide, by decide⟩ dX11_vibrationIfGap_28 (fun H locs S => ?_)
        obtain ⟨a8, σ8, hc8, h⟩ := bd_el h
        refine x_callVI C S KX0 ho2 (ok_X0_shakes (L := L) hc8 hSh ho2) ⟨cd_X0_shakes, ni_RX0, ml_RX11_160, in_X0_shakes, sl_X0_shakes⟩ ⟨by decide, by decide⟩ rfl (rm_ok (by decide) (by decide)) hl.1 rfl (Nat.le_of_ble_eq_true rfl) ⟨by decide, by decide⟩ dX11_vibrationIfGap_31 (fun H locs S => ?_)
        exact x_iretX C S hr (by decide) (by decide) h dX11_vibrationIfGap_34
      · exact x_callXX C S KX11 hx0 (ok_X11_needRange (L := L) hc6 hSh hx0) n_PVX ⟨cd_X11_needRange, ni_RX11, ml_RX11_176, in_X11_needRange, sl_X11_needRange⟩ ⟨by decide, by decide⟩ rfl (rm_ok (by decide) (by decide)) hl.1 rfl (Nat.le_of_ble_eq_true rfl) ⟨by decide, by decide⟩ dX11_vibrationIfGap_19 hT ⟨by decide, by decide⟩ hr6
    · exact x_callXX C S KX11 hx0 (ok_X11_neighbourAt (L := L) hc4 hSh hx0) n_PRX ⟨cd_X11_neighbourAt, ni_RX11, ml_RX11_156, in_X11_neighbourAt, sl_X11_neighbourAt⟩ ⟨by decide, by decide⟩ rfl (rm_ok (by decide) (by decide)) hl.1 rfl (Nat.le_of_ble_eq_true rfl) ⟨by decide, by decide⟩ dX11_vibrationIfGap_9 hT ⟨by decide, by decide⟩ hr4
  · exact x_callXX C S KX11 hx0 (ok_X11_blastAt (L := L) hc2 hSh hx0) n_PRX ⟨cd_X11_blastAt, ni_RX11, ml_RX11_125, in_X11_blastAt, sl_X11_blastAt⟩ ⟨by decide, by decide⟩ rfl (rm_ok (by decide) (by decide)) hl.1 rfl (Nat.le_of_ble_eq_true rfl) ⟨by decide, by decide⟩ dX11_vibrationIfGap_2 hT ⟨by decide, by decide⟩ hr2
theorem dX11_closes_0 : decode cX11_closes 0 = .ok (.aload_n 0, 1) := by decide +kernel
theorem dX11_closes_1 : decode cX11_closes 1 = .ok (.iload_n 1, 1) := by decide +kernel
theorem dX11_closes_2 : decode cX11_closes 2 = .ok (.invokevirtual 125, 3) := by decide +kernel
theorem dX11_closes_5 : decode cX11_closes 5 = .ok (.astore_n 3, 1) := by decide +kernel
theorem dX11_closes_6 : decode cX11_closes 6 = .ok (.aload_n 0, 1) := by decide +kernel
theorem dX11_closes_7 : decode cX11_closes 7 = .ok (.iload_n 2, 1) := by decide +kernel
theorem dX11_closes_8 : decode cX11_closes 8 = .ok (.invokevirtual 180, 3) := by decide +kernel
theorem dX11_closes_11 : decode cX11_closes 11 = .ok (.pop, 1) := by decide +kernel
theorem dX11_closes_12 : decode cX11_closes 12 = .ok (.aload_n 3, 1) := by decide +kernel
theorem dX11_closes_13 : decode cX11_closes 13 = .ok (.iload_n 2, 1) := by decide +kernel
theorem dX11_closes_14 : decode cX11_closes 14 = .ok (.invokevirtual 184, 3) := by decide +kernel
theorem dX11_closes_17 : decode cX11_closes 17 = .ok (.ireturn, 1) := by decide +kernel
def f_X11_closes (N : Nat) (R : Nat → Nat → Nat) (σ : SI) (x0 : Nat) (x1 : Int32) (x2 : Int32) : Option ((Int32 ⊕ Nat) × SI) := bdX (f_X11_blastAt N R σ x0 x1) (fun a2 σ2 => bdX (f_X11_roadAt N R σ2 x0 x2) (fun a4 σ4 => bd (f_X0_closesRoad N R σ4 a2 x2) (fun a5 σ5 => cb a5 (some (.inl a5, σ5)))))
set_option maxHeartbeats 4000000 in
set_option maxRecDepth 100000 in
theorem ok_X11_closes {l : Launch} {g : GL} {R : Nat → Nat → Nat} {L : Nat → Nat → Int64} {N : Nat} {σ : SI} {x0 : Nat} {x1 : Int32} {x2 : Int32} {r : ((Int32 ⊕ Nat) × SI)} (h : f_X11_closes N R σ x0 x1 x2 = some r) (hSh : ShR R) (hx0 : Ok 194 x0 11) : CtX l g 8 yX11_closes cX11_closes 4 (some .boolean) 194 194 2 12 [.ref (gb g + x0), .int x1, .int x2] (mkS σ R L) (PIX R L r) (PX R L r) := by
  refine vx_ofW (cc := cX11_closes) (maxL := 4) (ret := (some .boolean)) (by decide) rfl ?_
  intro p e s m args below meth c s₁ B hml hT hv
  obtain ⟨rfl, hE, hLo, hWd⟩ := hv
  have hr : meth.sig.returnType = (some .boolean) := B.returns
  have C : Cx l g p s m meth c cX11_closes 4 RX11 := ⟨B.exec, B.bytes, hml, findClass_of_methodNamed B.named, hE, hLo, B.notSynchronized⟩
  have S : S2 g s σ R L s.heap [] := ⟨hWd, va_S.rf⟩
  have hx := C.1
  have hb := C.2.1
  have hl := lv_entry ([.ref (gb g + x0), .int x1, .int x2]) (n := 4) (Nat.le_of_ble_eq_true rfl)
  rw [lg_entry_eq]
  generalize (lg_sl ([.ref (gb g + x0), .int x1, .int x2]) ++ List.replicate (4 - (lg_sl ([.ref (gb g + x0), .int x1, .int x2])).length) Slot.unset).toArray = ls at hl ⊢
  have hl : lv_has ls 4 [(0, .ref (gb g + x0)), (1, .int x1), (2, .int x2)] := hl
  generalize hH : s.heap = H at S ⊢
  generalize hlc : ([] : List Loc) = locs at S ⊢
  rw [f_X11_closes] at h
  refine lv_aload_n hx hb dX11_closes_0 rfl (lv_at hl 0 rfl) ?_
  refine lv_iload_n hx hb dX11_closes_1 rfl (lv_at hl 1 rfl) ?_
  rcases bdX_el h with ⟨a2, σ2, hc2, h⟩ | ⟨q2, σ2, hc2, hr2⟩
  · refine x_callXR C S KX11 hx0 (ok_X11_blastAt (L := L) hc2 hSh hx0) ⟨cd_X11_blastAt, ni_RX11, ml_RX11_125, in_X11_blastAt, sl_X11_blastAt⟩ ⟨by decide, by decide⟩ rfl (rm_ok (by decide) (by decide)) hl.1 rfl (Nat.le_of_ble_eq_true rfl) ⟨by decide, by decide⟩ dX11_closes_2 hT ⟨by decide, by decide⟩ (fun H locs ho2 S => ?_)
    refine lv_astore_n (lv' := [(3, .ref (gb g + a2)), (0, .ref (gb g + x0)), (1, .int x1), (2, .int x2)]) hx hb dX11_closes_5 rfl hl (by decide) rfl (fun ls hl => ?_)
    refine lv_aload_n hx hb dX11_closes_6 rfl (lv_at hl 1 rfl) ?_
    refine lv_iload_n hx hb dX11_closes_7 rfl (lv_at hl 3 rfl) ?_
    rcases bdX_el h with ⟨a4, σ4, hc4, h⟩ | ⟨q4, σ4, hc4, hr4⟩
    · refine x_callXR C S KX11 hx0 (ok_X11_roadAt (L := L) hc4 hSh hx0) ⟨cd_X11_roadAt, ni_RX11, ml_RX11_180, in_X11_roadAt, sl_X11_roadAt⟩ ⟨by decide, by decide⟩ rfl (rm_ok (by decide) (by decide)) hl.1 rfl (Nat.le_of_ble_eq_true rfl) ⟨by decide, by decide⟩ dX11_closes_8 hT ⟨by decide, by decide⟩ (fun H locs ho4 S => ?_)
      refine lv_pop hx hb dX11_closes_11 rfl ?_
      refine lv_aload_n hx hb dX11_closes_12 rfl (lv_at hl 0 rfl) ?_
      refine lv_iload_n hx hb dX11_closes_13 rfl (lv_at hl 3 rfl) ?_
      obtain ⟨a5, σ5, hc5, h⟩ := bd_el h
      refine x_callVI C S KX0 ho2 (ok_X0_closesRoad (L := L) hc5 hSh ho2) ⟨cd_X0_closesRoad, ni_RX0, ml_RX11_184, in_X0_closesRoad, sl_X0_closesRoad⟩ ⟨by decide, by decide⟩ rfl (rm_ok (by decide) (by decide)) hl.1 rfl (Nat.le_of_ble_eq_true rfl) ⟨by decide, by decide⟩ dX11_closes_14 (fun H locs S => ?_)
      obtain ⟨hb6, h⟩ := cb_el h
      exact x_zretX C S hr (by decide) (by decide) hb6 h dX11_closes_17
    · exact x_callXX C S KX11 hx0 (ok_X11_roadAt (L := L) hc4 hSh hx0) n_PRX ⟨cd_X11_roadAt, ni_RX11, ml_RX11_180, in_X11_roadAt, sl_X11_roadAt⟩ ⟨by decide, by decide⟩ rfl (rm_ok (by decide) (by decide)) hl.1 rfl (Nat.le_of_ble_eq_true rfl) ⟨by decide, by decide⟩ dX11_closes_8 hT ⟨by decide, by decide⟩ hr4
  · exact x_callXX C S KX11 hx0 (ok_X11_blastAt (L := L) hc2 hSh hx0) n_PRX ⟨cd_X11_blastAt, ni_RX11, ml_RX11_125, in_X11_blastAt, sl_X11_blastAt⟩ ⟨by decide, by decide⟩ rfl (rm_ok (by decide) (by decide)) hl.1 rfl (Nat.le_of_ble_eq_true rfl) ⟨by decide, by decide⟩ dX11_closes_2 hT ⟨by decide, by decide⟩ hr2
theorem dX11_closedBy_0 : decode cX11_closedBy 0 = .ok (.aload_n 0, 1) := by decide +kernel
theorem dX11_closedBy_1 : decode cX11_closedBy 1 = .ok (.iload_n 1, 1) := by decide +kernel
theorem dX11_closedBy_2 : decode cX11_closedBy 2 = .ok (.invokevirtual 125, 3) := by decide +kernel
theorem dX11_closedBy_5 : decode cX11_closedBy 5 = .ok (.getfield 187, 3) := by decide +kernel
theorem dX11_closedBy_8 : decode cX11_closedBy 8 = .ok (.ireturn, 1) := by decide +kernel
def f_X11_closedBy (N : Nat) (R : Nat → Nat → Nat) (σ : SI) (x0 : Nat) (x1 : Int32) : Option ((Int32 ⊕ Nat) × SI) := bdX (f_X11_blastAt N R σ x0 x1) (fun a2 σ2 => some (.inl (σ2 a2 11), σ2))
set_option maxHeartbeats 4000000 in
set_option maxRecDepth 100000 in
theorem ok_X11_closedBy {l : Launch} {g : GL} {R : Nat → Nat → Nat} {L : Nat → Nat → Int64} {N : Nat} {σ : SI} {x0 : Nat} {x1 : Int32} {r : ((Int32 ⊕ Nat) × SI)} (h : f_X11_closedBy N R σ x0 x1 = some r) (hSh : ShR R) (hx0 : Ok 194 x0 11) : CtX l g 8 yX11_closedBy cX11_closedBy 2 (some .int) 194 194 1 6 [.ref (gb g + x0), .int x1] (mkS σ R L) (PIX R L r) (PX R L r) := by
  refine vx_ofW (cc := cX11_closedBy) (maxL := 2) (ret := (some .int)) (by decide) rfl ?_
  intro p e s m args below meth c s₁ B hml hT hv
  obtain ⟨rfl, hE, hLo, hWd⟩ := hv
  have hr : meth.sig.returnType = (some .int) := B.returns
  have C : Cx l g p s m meth c cX11_closedBy 2 RX11 := ⟨B.exec, B.bytes, hml, findClass_of_methodNamed B.named, hE, hLo, B.notSynchronized⟩
  have S : S2 g s σ R L s.heap [] := ⟨hWd, va_S.rf⟩
  have hx := C.1
  have hb := C.2.1
  have hl := lv_entry ([.ref (gb g + x0), .int x1]) (n := 2) (Nat.le_of_ble_eq_true rfl)
  rw [lg_entry_eq]
  generalize (lg_sl ([.ref (gb g + x0), .int x1]) ++ List.replicate (2 - (lg_sl ([.ref (gb g + x0), .int x1])).length) Slot.unset).toArray = ls at hl ⊢
  have hl : lv_has ls 2 [(0, .ref (gb g + x0)), (1, .int x1)] := hl
  generalize hH : s.heap = H at S ⊢
  generalize hlc : ([] : List Loc) = locs at S ⊢
  rw [f_X11_closedBy] at h
  refine lv_aload_n hx hb dX11_closedBy_0 rfl (lv_at hl 0 rfl) ?_
  refine lv_iload_n hx hb dX11_closedBy_1 rfl (lv_at hl 1 rfl) ?_
  rcases bdX_el h with ⟨a2, σ2, hc2, h⟩ | ⟨q2, σ2, hc2, hr2⟩
  · refine x_callXR C S KX11 hx0 (ok_X11_blastAt (L := L) hc2 hSh hx0) ⟨cd_X11_blastAt, ni_RX11, ml_RX11_125, in_X11_blastAt, sl_X11_blastAt⟩ ⟨by decide, by decide⟩ rfl (rm_ok (by decide) (by decide)) hl.1 rfl (Nat.le_of_ble_eq_true rfl) ⟨by decide, by decide⟩ dX11_closedBy_2 hT ⟨by decide, by decide⟩ (fun H locs ho2 S => ?_)
    refine x_getI C S KX0 ho2 11 (by decide) rfl rfl fl_RX11_187 dX11_closedBy_5 ?_
    exact x_iretX C S hr (by decide) (by decide) h dX11_closedBy_8
  · exact x_callXX C S KX11 hx0 (ok_X11_blastAt (L := L) hc2 hSh hx0) n_PRX ⟨cd_X11_blastAt, ni_RX11, ml_RX11_125, in_X11_blastAt, sl_X11_blastAt⟩ ⟨by decide, by decide⟩ rfl (rm_ok (by decide) (by decide)) hl.1 rfl (Nat.le_of_ble_eq_true rfl) ⟨by decide, by decide⟩ dX11_closedBy_2 hT ⟨by decide, by decide⟩ hr2
theorem dX11_isQuiet_0 : decode cX11_isQuiet 0 = .ok (.aload_n 0, 1) := by decide +kernel
theorem dX11_isQuiet_1 : decode cX11_isQuiet 1 = .ok (.iload_n 1, 1) := by decide +kernel
theorem dX11_isQuiet_2 : decode cX11_isQuiet 2 = .ok (.invokevirtual 156, 3) := by decide +kernel
theorem dX11_isQuiet_5 : decode cX11_isQuiet 5 = .ok (.iload_n 2, 1) := by decide +kernel
theorem dX11_isQuiet_6 : decode cX11_isQuiet 6 = .ok (.invokevirtual 190, 3) := by decide +kernel
theorem dX11_isQuiet_9 : decode cX11_isQuiet 9 = .ok (.ireturn, 1) := by decide +kernel
def f_X11_isQuiet (N : Nat) (R : Nat → Nat → Nat) (σ : SI) (x0 : Nat) (x1 : Int32) (x2 : Int32) : Option ((Int32 ⊕ Nat) × SI) := bdX (f_X11_neighbourAt N R σ x0 x1) (fun a2 σ2 => bd (f_X4_quietAt N R σ2 a2 x2) (fun a3 σ3 => cb a3 (some (.inl a3, σ3))))
set_option maxHeartbeats 4000000 in
set_option maxRecDepth 100000 in
theorem ok_X11_isQuiet {l : Launch} {g : GL} {R : Nat → Nat → Nat} {L : Nat → Nat → Int64} {N : Nat} {σ : SI} {x0 : Nat} {x1 : Int32} {x2 : Int32} {r : ((Int32 ⊕ Nat) × SI)} (h : f_X11_isQuiet N R σ x0 x1 x2 = some r) (hSh : ShR R) (hx0 : Ok 194 x0 11) : CtX l g 7 yX11_isQuiet cX11_isQuiet 3 (some .boolean) 194 194 1 6 [.ref (gb g + x0), .int x1, .int x2] (mkS σ R L) (PIX R L r) (PX R L r) := by
  refine vx_ofW (cc := cX11_isQuiet) (maxL := 3) (ret := (some .boolean)) (by decide) rfl ?_
  intro p e s m args below meth c s₁ B hml hT hv
  obtain ⟨rfl, hE, hLo, hWd⟩ := hv
  have hr : meth.sig.returnType = (some .boolean) := B.returns
  have C : Cx l g p s m meth c cX11_isQuiet 3 RX11 := ⟨B.exec, B.bytes, hml, findClass_of_methodNamed B.named, hE, hLo, B.notSynchronized⟩
  have S : S2 g s σ R L s.heap [] := ⟨hWd, va_S.rf⟩
  have hx := C.1
  have hb := C.2.1
  have hl := lv_entry ([.ref (gb g + x0), .int x1, .int x2]) (n := 3) (Nat.le_of_ble_eq_true rfl)
  rw [lg_entry_eq]
  generalize (lg_sl ([.ref (gb g + x0), .int x1, .int x2]) ++ List.replicate (3 - (lg_sl ([.ref (gb g + x0), .int x1, .int x2])).length) Slot.unset).toArray = ls at hl ⊢
  have hl : lv_has ls 3 [(0, .ref (gb g + x0)), (1, .int x1), (2, .int x2)] := hl
  generalize hH : s.heap = H at S ⊢
  generalize hlc : ([] : List Loc) = locs at S ⊢
  rw [f_X11_isQuiet] at h
  refine lv_aload_n hx hb dX11_isQuiet_0 rfl (lv_at hl 0 rfl) ?_
  refine lv_iload_n hx hb dX11_isQuiet_1 rfl (lv_at hl 1 rfl) ?_
  rcases bdX_el h with ⟨a2, σ2, hc2, h⟩ | ⟨q2, σ2, hc2, hr2⟩
  · refine x_callXR C S KX11 hx0 (ok_X11_neighbourAt (L := L) hc2 hSh hx0) ⟨cd_X11_neighbourAt, ni_RX11, ml_RX11_156, in_X11_neighbourAt, sl_X11_neighbourAt⟩ ⟨by decide, by decide⟩ rfl (rm_ok (by decide) (by decide)) hl.1 rfl (Nat.le_of_ble_eq_true rfl) ⟨by decide, by decide⟩ dX11_isQuiet_2 hT ⟨by decide, by decide⟩ (fun H locs ho2 S => ?_)
    refine lv_iload_n hx hb dX11_isQuiet_5 rfl (lv_at hl 2 rfl) ?_
    obtain ⟨a3, σ3, hc3, h⟩ := bd_el h
    refine x_callVI C S KX4 ho2 (ok_X4_quietAt (L := L) hc3 hSh ho2) ⟨cd_X4_quietAt, ni_RX4, ml_RX11_190, in_X4_quietAt, sl_X4_quietAt⟩ ⟨by decide, by decide⟩ rfl (rm_ok (by decide) (by decide)) hl.1 rfl (Nat.le_of_ble_eq_true rfl) ⟨by decide, by decide⟩ dX11_isQuiet_6 (fun H locs S => ?_)
    obtain ⟨hb4, h⟩ := cb_el h
    exact x_zretX C S hr (by decide) (by decide) hb4 h dX11_isQuiet_9
  · exact x_callXX C S KX11 hx0 (ok_X11_neighbourAt (L := L) hc2 hSh hx0) n_PRX ⟨cd_X11_neighbourAt, ni_RX11, ml_RX11_156, in_X11_neighbourAt, sl_X11_neighbourAt⟩ ⟨by decide, by decide⟩ rfl (rm_ok (by decide) (by decide)) hl.1 rfl (Nat.le_of_ble_eq_true rfl) ⟨by decide, by decide⟩ dX11_isQuiet_2 hT ⟨by decide, by decide⟩ hr2
theorem dX11_dustAt_0 : decode cX11_dustAt 0 = .ok (.aload_n 0, 1) := by decide +kernel
theorem dX11_dustAt_1 : decode cX11_dustAt 1 = .ok (.iload_n 1, 1) := by decide +kernel
theorem dX11_dustAt_2 : decode cX11_dustAt 2 = .ok (.invokevirtual 125, 3) := by decide +kernel
theorem dX11_dustAt_5 : decode cX11_dustAt 5 = .ok (.astore_n 3, 1) := by decide +kernel
theorem dX11_dustAt_6 : decode cX11_dustAt 6 = .ok (.aload_n 0, 1) := by decide +kernel
theorem dX11_dustAt_7 : decode cX11_dustAt 7 = .ok (.iload_n 2, 1) := by decide +kernel
theorem dX11_dustAt_8 : decode cX11_dustAt 8 = .ok (.iconst 0, 1) := by decide +kernel
theorem dX11_dustAt_9 : decode cX11_dustAt 9 = .ok (.bipush 23, 2) := by decide +kernel
theorem dX11_dustAt_11 : decode cX11_dustAt 11 = .ok (.invokevirtual 176, 3) := by decide +kernel
theorem dX11_dustAt_14 : decode cX11_dustAt 14 = .ok (.aload_n 3, 1) := by decide +kernel
theorem dX11_dustAt_15 : decode cX11_dustAt 15 = .ok (.getfield 193, 3) := by decide +kernel
theorem dX11_dustAt_18 : decode cX11_dustAt 18 = .ok (.iload_n 2, 1) := by decide +kernel
theorem dX11_dustAt_19 : decode cX11_dustAt 19 = .ok (.iaload, 1) := by decide +kernel
theorem dX11_dustAt_20 : decode cX11_dustAt 20 = .ok (.ireturn, 1) := by decide +kernel
def f_X11_dustAt (N : Nat) (R : Nat → Nat → Nat) (σ : SI) (x0 : Nat) (x1 : Int32) (x2 : Int32) : Option ((Int32 ⊕ Nat) × SI) := bdX (f_X11_blastAt N R σ x0 x1) (fun a2 σ2 => bdX (f_X11_needRange N R σ2 x0 x2 (0 : Int32) (23 : Int32)) (fun _ σ4 => ck x2 24 (some (.inl (σ4 (R a2 3) x2.toNatClampNeg), σ4))))
set_option maxHeartbeats 4000000 in
set_option maxRecDepth 100000 in
theorem ok_X11_dustAt {l : Launch} {g : GL} {R : Nat → Nat → Nat} {L : Nat → Nat → Int64} {N : Nat} {σ : SI} {x0 : Nat} {x1 : Int32} {x2 : Int32} {r : ((Int32 ⊕ Nat) × SI)} (h : f_X11_dustAt N R σ x0 x1 x2 = some r) (hSh : ShR R) (hx0 : Ok 194 x0 11) : CtX l g 8 yX11_dustAt cX11_dustAt 4 (some .int) 194 194 2 12 [.ref (gb g + x0), .int x1, .int x2] (mkS σ R L) (PIX R L r) (PX R L r) := by
  refine vx_ofW (cc := cX11_dustAt) (maxL := 4) (ret := (some .int)) (by decide) rfl ?_
  intro p e s m args below meth c s₁ B hml hT hv
  obtain ⟨rfl, hE, hLo, hWd⟩ := hv
  have hr : meth.sig.returnType = (some .int) := B.returns
  have C : Cx l g p s m meth c cX11_dustAt 4 RX11 := ⟨B.exec, B.bytes, hml, findClass_of_methodNamed B.named, hE, hLo, B.notSynchronized⟩
  have S : S2 g s σ R L s.heap [] := ⟨hWd, va_S.rf⟩
  have hx := C.1
  have hb := C.2.1
  have hl := lv_entry ([.ref (gb g + x0), .int x1, .int x2]) (n := 4) (Nat.le_of_ble_eq_true rfl)
  rw [lg_entry_eq]
  generalize (lg_sl ([.ref (gb g + x0), .int x1, .int x2]) ++ List.replicate (4 - (lg_sl ([.ref (gb g + x0), .int x1, .int x2])).length) Slot.unset).toArray = ls at hl ⊢
  have hl : lv_has ls 4 [(0, .ref (gb g + x0)), (1, .int x1), (2, .int x2)] := hl
  generalize hH : s.heap = H at S ⊢
  generalize hlc : ([] : List Loc) = locs at S ⊢
  rw [f_X11_dustAt] at h
  refine lv_aload_n hx hb dX11_dustAt_0 rfl (lv_at hl 0 rfl) ?_
  refine lv_iload_n hx hb dX11_dustAt_1 rfl (lv_at hl 1 rfl) ?_
  rcases bdX_el h with ⟨a2, σ2, hc2, h⟩ | ⟨q2, σ2, hc2, hr2⟩
  · refine x_callXR C S KX11 hx0 (ok_X11_blastAt (L := L) hc2 hSh hx0) ⟨cd_X11_blastAt, ni_RX11, ml_RX11_125, in_X11_blastAt, sl_X11_blastAt⟩ ⟨by decide, by decide⟩ rfl (rm_ok (by decide) (by decide)) hl.1 rfl (Nat.le_of_ble_eq_true rfl) ⟨by decide, by decide⟩ dX11_dustAt_2 hT ⟨by decide, by decide⟩ (fun H locs ho2 S => ?_)
    refine lv_astore_n (lv' := [(3, .ref (gb g + a2)), (0, .ref (gb g + x0)), (1, .int x1), (2, .int x2)]) hx hb dX11_dustAt_5 rfl hl (by decide) rfl (fun ls hl => ?_)
    refine lv_aload_n hx hb dX11_dustAt_6 rfl (lv_at hl 1 rfl) ?_
    refine lv_iload_n hx hb dX11_dustAt_7 rfl (lv_at hl 3 rfl) ?_
    refine lv_iconst (v := (0 : Int32)) hx hb dX11_dustAt_8 (by decide) ?_
    refine lv_bipush (v := (23 : Int32)) hx hb dX11_dustAt_9 (by decide) ?_
    rcases bdX_el h with ⟨a4, σ4, hc4, h⟩ | ⟨q4, σ4, hc4, hr4⟩
    · refine x_callXV C S KX11 hx0 (ok_X11_needRange (L := L) hc4 hSh hx0) ⟨cd_X11_needRange, ni_RX11, ml_RX11_176, in_X11_needRange, sl_X11_needRange⟩ ⟨by decide, by decide⟩ rfl (rm_ok (by decide) (by decide)) hl.1 rfl (Nat.le_of_ble_eq_true rfl) ⟨by decide, by decide⟩ dX11_dustAt_11 hT ⟨by decide, by decide⟩ (fun H locs S => ?_)
      refine lv_aload_n hx hb dX11_dustAt_14 rfl (lv_at hl 0 rfl) ?_
      have hR5 : Ok 194 (R a2 3) 10024 := hSh a2 0 3 10024 ho2.1 rfl
      refine x_getR C S KX0 ho2 3 (by decide) rfl rfl fl_RX11_193 hR5 dX11_dustAt_15 ?_
      refine lv_iload_n hx hb dX11_dustAt_18 rfl (lv_at hl 3 rfl) ?_
      obtain ⟨hi6, h⟩ := ck_el h
      refine x_iald (len := 24) C S (by decide) hR5 hi6 dX11_dustAt_19 ?_
      exact x_iretX C S hr (by decide) (by decide) h dX11_dustAt_20
    · exact x_callXX C S KX11 hx0 (ok_X11_needRange (L := L) hc4 hSh hx0) n_PVX ⟨cd_X11_needRange, ni_RX11, ml_RX11_176, in_X11_needRange, sl_X11_needRange⟩ ⟨by decide, by decide⟩ rfl (rm_ok (by decide) (by decide)) hl.1 rfl (Nat.le_of_ble_eq_true rfl) ⟨by decide, by decide⟩ dX11_dustAt_11 hT ⟨by decide, by decide⟩ hr4
  · exact x_callXX C S KX11 hx0 (ok_X11_blastAt (L := L) hc2 hSh hx0) n_PRX ⟨cd_X11_blastAt, ni_RX11, ml_RX11_125, in_X11_blastAt, sl_X11_blastAt⟩ ⟨by decide, by decide⟩ rfl (rm_ok (by decide) (by decide)) hl.1 rfl (Nat.le_of_ble_eq_true rfl) ⟨by decide, by decide⟩ dX11_dustAt_2 hT ⟨by decide, by decide⟩ hr2
theorem dX11_neededRadius_0 : decode cX11_neededRadius 0 = .ok (.aload_n 0, 1) := by decide +kernel
theorem dX11_neededRadius_1 : decode cX11_neededRadius 1 = .ok (.iload_n 1, 1) := by decide +kernel
theorem dX11_neededRadius_2 : decode cX11_neededRadius 2 = .ok (.invokevirtual 125, 3) := by decide +kernel
theorem dX11_neededRadius_5 : decode cX11_neededRadius 5 = .ok (.astore_n 3, 1) := by decide +kernel
theorem dX11_neededRadius_6 : decode cX11_neededRadius 6 = .ok (.aload_n 0, 1) := by decide +kernel
theorem dX11_neededRadius_7 : decode cX11_neededRadius 7 = .ok (.iload_n 2, 1) := by decide +kernel
theorem dX11_neededRadius_8 : decode cX11_neededRadius 8 = .ok (.invokevirtual 180, 3) := by decide +kernel
theorem dX11_neededRadius_11 : decode cX11_neededRadius 11 = .ok (.astore 4, 2) := by decide +kernel
theorem dX11_neededRadius_13 : decode cX11_neededRadius 13 = .ok (.iconst 0, 1) := by decide +kernel
theorem dX11_neededRadius_14 : decode cX11_neededRadius 14 = .ok (.istore 5, 2) := by decide +kernel
theorem dX11_neededRadius_16 : decode cX11_neededRadius 16 = .ok (.sipush 1500, 3) := by decide +kernel
theorem dX11_neededRadius_19 : decode cX11_neededRadius 19 = .ok (.istore 6, 2) := by decide +kernel
theorem dX11_neededRadius_21 : decode cX11_neededRadius 21 = .ok (.iconst 0, 1) := by decide +kernel
theorem dX11_neededRadius_22 : decode cX11_neededRadius 22 = .ok (.istore 7, 2) := by decide +kernel
theorem dX11_neededRadius_24 : decode cX11_neededRadius 24 = .ok (.iload 7, 2) := by decide +kernel
theorem dX11_neededRadius_26 : decode cX11_neededRadius 26 = .ok (.bipush 16, 2) := by decide +kernel
theorem dX11_neededRadius_28 : decode cX11_neededRadius 28 = .ok (.if_icmp .ge 56, 3) := by decide +kernel
theorem dX11_neededRadius_31 : decode cX11_neededRadius 31 = .ok (.iload 5, 2) := by decide +kernel
theorem dX11_neededRadius_33 : decode cX11_neededRadius 33 = .ok (.iload 6, 2) := by decide +kernel
theorem dX11_neededRadius_35 : decode cX11_neededRadius 35 = .ok (.if_icmp .ge 49, 3) := by decide +kernel
theorem dX11_neededRadius_38 : decode cX11_neededRadius 38 = .ok (.iload 5, 2) := by decide +kernel
theorem dX11_neededRadius_40 : decode cX11_neededRadius 40 = .ok (.iload 6, 2) := by decide +kernel
theorem dX11_neededRadius_42 : decode cX11_neededRadius 42 = .ok (.iadd, 1) := by decide +kernel
theorem dX11_neededRadius_43 : decode cX11_neededRadius 43 = .ok (.iconst 2, 1) := by decide +kernel
theorem dX11_neededRadius_44 : decode cX11_neededRadius 44 = .ok (.idiv, 1) := by decide +kernel
theorem dX11_neededRadius_45 : decode cX11_neededRadius 45 = .ok (.istore 8, 2) := by decide +kernel
theorem dX11_neededRadius_47 : decode cX11_neededRadius 47 = .ok (.aload 4, 2) := by decide +kernel
theorem dX11_neededRadius_49 : decode cX11_neededRadius 49 = .ok (.aload_n 3, 1) := by decide +kernel
theorem dX11_neededRadius_50 : decode cX11_neededRadius 50 = .ok (.getfield 196, 3) := by decide +kernel
theorem dX11_neededRadius_53 : decode cX11_neededRadius 53 = .ok (.aload_n 3, 1) := by decide +kernel
theorem dX11_neededRadius_54 : decode cX11_neededRadius 54 = .ok (.getfield 199, 3) := by decide +kernel
theorem dX11_neededRadius_57 : decode cX11_neededRadius 57 = .ok (.iload 8, 2) := by decide +kernel
theorem dX11_neededRadius_59 : decode cX11_neededRadius 59 = .ok (.invokevirtual 202, 3) := by decide +kernel
theorem dX11_neededRadius_62 : decode cX11_neededRadius 62 = .ok (.ifCond .eq 10, 3) := by decide +kernel
theorem dX11_neededRadius_65 : decode cX11_neededRadius 65 = .ok (.iload 8, 2) := by decide +kernel
theorem dX11_neededRadius_67 : decode cX11_neededRadius 67 = .ok (.istore 6, 2) := by decide +kernel
theorem dX11_neededRadius_69 : decode cX11_neededRadius 69 = .ok (.goto 9, 3) := by decide +kernel
theorem dX11_neededRadius_72 : decode cX11_neededRadius 72 = .ok (.iload 8, 2) := by decide +kernel
theorem dX11_neededRadius_74 : decode cX11_neededRadius 74 = .ok (.iconst 1, 1) := by decide +kernel
theorem dX11_neededRadius_75 : decode cX11_neededRadius 75 = .ok (.iadd, 1) := by decide +kernel
theorem dX11_neededRadius_76 : decode cX11_neededRadius 76 = .ok (.istore 5, 2) := by decide +kernel
theorem dX11_neededRadius_78 : decode cX11_neededRadius 78 = .ok (.iinc 7 1, 3) := by decide +kernel
theorem dX11_neededRadius_81 : decode cX11_neededRadius 81 = .ok (.goto (-57), 3) := by decide +kernel
theorem dX11_neededRadius_84 : decode cX11_neededRadius 84 = .ok (.iload 5, 2) := by decide +kernel
theorem dX11_neededRadius_86 : decode cX11_neededRadius 86 = .ok (.ireturn, 1) := by decide +kernel
def f_X11_neededRadius_78 (N : Nat) (R : Nat → Nat → Nat) (k24 : SI → Nat → Nat → Int32 → Int32 → Int32 → Option ((Int32 ⊕ Nat) × SI)) (σ : SI) (x3 : Nat) (x4 : Nat) (x5 : Int32) (x6 : Int32) (x7 : Int32) : Option ((Int32 ⊕ Nat) × SI) := k24 σ x3 x4 x5 x6 (x7 + 1)
def f_X11_neededRadius_24 (N : Nat) (R : Nat → Nat → Nat) : Nat → SI → Nat → Nat → Int32 → Int32 → Int32 → Option ((Int32 ⊕ Nat) × SI)
  | 0, _, _, _, _, _, _ => none
  | n + 1, σ, x3, x4, x5, x6, x7 => if (16 : Int32) ≤ x7 then (some (.inl x5, σ)) else (if x6 ≤ x5 then (some (.inl x5, σ)) else (bd (f_X7_comesWithin N R σ x4 (σ x3 4) (σ x3 5) ((x5 + x6) / (2 : Int32))) (fun a7 σ7 => if a7 = 0 then (f_X11_neededRadius_78 N R (fun σ x3 x4 x5 x6 x7 => f_X11_neededRadius_24 N R n σ x3 x4 x5 x6 x7) σ7 x3 x4 (((x5 + x6) / (2 : Int32)) + (1 : Int32)) x6 x7) else (f_X11_neededRadius_78 N R (fun σ x3 x4 x5 x6 x7 => f_X11_neededRadius_24 N R n σ x3 x4 x5 x6 x7) σ7 x3 x4 x5 ((x5 + x6) / (2 : Int32)) x7))))
def f_X11_neededRadius (N : Nat) (R : Nat → Nat → Nat) (σ : SI) (x0 : Nat) (x1 : Int32) (x2 : Int32) : Option ((Int32 ⊕ Nat) × SI) := bdX (f_X11_blastAt N R σ x0 x1) (fun a2 σ2 => bdX (f_X11_roadAt N R σ2 x0 x2) (fun a4 σ4 => f_X11_neededRadius_24 N R N σ4 a2 a4 (0 : Int32) (1500 : Int32) (0 : Int32)))
set_option maxHeartbeats 4000000 in
set_option maxRecDepth 100000 in
theorem w_X11_neededRadius_78 {l : Launch} {g : GL} {p : Program} {e : Jvm.Env} {s : State} {m : MethodId} {args : Array Value} {below : List Frame} {meth : Method} {c : Code} {R : Nat → Nat → Nat} {L : Nat → Nat → Int64} {r : ((Int32 ⊕ Nat) × SI)} {N : Nat} {k24 : SI → Nat → Nat → Int32 → Int32 → Int32 → Option ((Int32 ⊕ Nat) × SI)} (C : Cx l g p s m meth c cX11_neededRadius 9 RX11) (hr : meth.sig.returnType = (some .int)) (hT : ∀ x ∈ c.exceptionTable.toList, False) (hSh : ShR R) (hk24 : ∀ (σ : SI) (x3 : Nat) (x4 : Nat) (x5 : Int32) (x6 : Int32) (x7 : Int32), k24 σ x3 x4 x5 x6 x7 = some r → Ok 194 x3 0 → Ok 194 x4 7 → ∀ (H : Heap) (locs : List Loc) (ls : Array Slot), S2 g s σ R L H locs → lv_has ls 9 [(3, .ref (gb g + x3)), (4, .ref (gb g + x4)), (5, .int x5), (6, .int x6), (7, .int x7)] → W p l e (rmd 8 2 12) s m args below meth c H locs 2 (6 * 2) (vx_MQ below (Qg g 194 (PIX R L r)) (Xg g 194 (PX R L r)) args s 2 12 (gA g)) (F0 m 24 ls [])) : ∀ (σ : SI) (x3 : Nat) (x4 : Nat) (x5 : Int32) (x6 : Int32) (x7 : Int32), f_X11_neededRadius_78 N R k24 σ x3 x4 x5 x6 x7 = some r → Ok 194 x3 0 → Ok 194 x4 7 → ∀ (H : Heap) (locs : List Loc) (ls : Array Slot), S2 g s σ R L H locs → lv_has ls 9 [(3, .ref (gb g + x3)), (4, .ref (gb g + x4)), (5, .int x5), (6, .int x6), (7, .int x7)] → W p l e (rmd 8 2 12) s m args below meth c H locs 2 (6 * 2) (vx_MQ below (Qg g 194 (PIX R L r)) (Xg g 194 (PX R L r)) args s 2 12 (gA g)) (F0 m 78 ls []) := by
  have hx := C.1
  have hb := C.2.1
  intro σ x3 x4 x5 x6 x7 h hx3 hx4 H locs ls S hl
  rw [f_X11_neededRadius_78] at h
  refine lv_iinc (v := x7 + 1) (lv' := [(7, .int (x7 + 1)), (3, .ref (gb g + x3)), (4, .ref (gb g + x4)), (5, .int x5), (6, .int x6)]) hx hb dX11_neededRadius_78 hl (k := 4) rfl rfl (by decide) rfl (fun ls hl => ?_)
  refine lv_goto (tgt := 24) hx hb dX11_neededRadius_81 (by decide) ?_
  exact hk24 σ x3 x4 x5 x6 (x7 + 1) h hx3 hx4 H locs ls S (lv_sub hl [1, 2, 3, 4, 0] rfl)
set_option maxHeartbeats 4000000 in
set_option maxRecDepth 100000 in
theorem w_X11_neededRadius_24 {l : Launch} {g : GL} {p : Program} {e : Jvm.Env} {s : State} {m : MethodId} {args : Array Value} {below : List Frame} {meth : Method} {c : Code} {R : Nat → Nat → Nat} {L : Nat → Nat → Int64} {r : ((Int32 ⊕ Nat) × SI)} {N : Nat} (C : Cx l g p s m meth c cX11_neededRadius 9 RX11) (hr : meth.sig.returnType = (some .int)) (hT : ∀ x ∈ c.exceptionTable.toList, False) (hSh : ShR R) : ∀ (n : Nat) (σ : SI) (x3 : Nat) (x4 : Nat) (x5 : Int32) (x6 : Int32) (x7 : Int32), f_X11_neededRadius_24 N R n σ x3 x4 x5 x6 x7 = some r → Ok 194 x3 0 → Ok 194 x4 7 → ∀ (H : Heap) (locs : List Loc) (ls : Array Slot), S2 g s σ R L H locs → lv_has ls 9 [(3, .ref (gb g + x3)), (4, .ref (gb g + x4)), (5, .int x5), (6, .int x6), (7, .int x7)] → W p l e (rmd 8 2 12) s m args below meth c H locs 2 (6 * 2) (vx_MQ below (Qg g 194 (PIX R L r)) (Xg g 194 (PX R L r)) args s 2 12 (gA g)) (F0 m 24 ls []) := by
  have hx := C.1
  have hb := C.2.1
  intro n
  induction n with
  | zero =>
    intro σ x3 x4 x5 x6 x7 h
    cases (show (none : Option ((Int32 ⊕ Nat) × SI)) = some r from h)
  | succ n ih =>
    intro σ x3 x4 x5 x6 x7 h hx3 hx4 H locs ls S hl
    rw [f_X11_neededRadius_24] at h
    refine lv_iload hx hb dX11_neededRadius_24 (lv_at hl 4 rfl) ?_
    refine lv_bipush (v := (16 : Int32)) hx hb dX11_neededRadius_26 (by decide) ?_
    refine lv_icmp_ge (tgt := 84) hx hb dX11_neededRadius_28 (by decide) (fun c5 => ?_) (fun c5 => ?_)
    · have h := it_p c5 h
      refine lv_iload hx hb dX11_neededRadius_84 (lv_at hl 2 rfl) ?_
      exact x_iretX C S hr (by decide) (by decide) h dX11_neededRadius_86
    · have h := it_n c5 h
      refine lv_iload hx hb dX11_neededRadius_31 (lv_at hl 2 rfl) ?_
      refine lv_iload hx hb dX11_neededRadius_33 (lv_at hl 3 rfl) ?_
      refine lv_icmp_ge (tgt := 84) hx hb dX11_neededRadius_35 (by decide) (fun c6 => ?_) (fun c6 => ?_)
      · have h := it_p c6 h
        refine lv_iload hx hb dX11_neededRadius_84 (lv_at hl 2 rfl) ?_
        exact x_iretX C S hr (by decide) (by decide) h dX11_neededRadius_86
      · have h := it_n c6 h
        refine lv_iload hx hb dX11_neededRadius_38 (lv_at hl 2 rfl) ?_
        refine lv_iload hx hb dX11_neededRadius_40 (lv_at hl 3 rfl) ?_
        refine lv_iadd hx hb dX11_neededRadius_42 ?_
        refine lv_iconst (v := (2 : Int32)) hx hb dX11_neededRadius_43 (by decide) ?_
        refine lv_idiv hx hb dX11_neededRadius_44 (by decide) ?_
        refine lv_istore (lv' := [(8, .int ((x5 + x6) / (2 : Int32))), (3, .ref (gb g + x3)), (4, .ref (gb g + x4)), (5, .int x5), (6, .int x6), (7, .int x7)]) hx hb dX11_neededRadius_45 hl (by decide) rfl (fun ls hl => ?_)
        refine lv_aload hx hb dX11_neededRadius_47 (lv_at hl 2 rfl) ?_
        refine lv_aload_n hx hb dX11_neededRadius_49 rfl (lv_at hl 1 rfl) ?_
        refine x_getI C S KX0 hx3 4 (by decide) rfl rfl fl_RX11_196 dX11_neededRadius_50 ?_
        refine lv_aload_n hx hb dX11_neededRadius_53 rfl (lv_at hl 1 rfl) ?_
        refine x_getI C S KX0 hx3 5 (by decide) rfl rfl fl_RX11_199 dX11_neededRadius_54 ?_
        refine lv_iload hx hb dX11_neededRadius_57 (lv_at hl 0 rfl) ?_
        obtain ⟨a7, σ7, hc7, h⟩ := bd_el h
        refine x_callVI C S KX7 hx4 (ok_X7_comesWithin (L := L) hc7 hSh hx4) ⟨cd_X7_comesWithin, ni_RX7, ml_RX11_202, in_X7_comesWithin, sl_X7_comesWithin⟩ ⟨by decide, by decide⟩ rfl (rm_ok (by decide) (by decide)) hl.1 rfl (Nat.le_of_ble_eq_true rfl) ⟨by decide, by decide⟩ dX11_neededRadius_59 (fun H locs S => ?_)
        refine lv_if_eq (tgt := 72) hx hb dX11_neededRadius_62 (by decide) (fun c8 => ?_) (fun c8 => ?_)
        · have h := it_p c8 h
          refine lv_iload hx hb dX11_neededRadius_72 (lv_at hl 0 rfl) ?_
          refine lv_iconst (v := (1 : Int32)) hx hb dX11_neededRadius_74 (by decide) ?_
          refine lv_iadd hx hb dX11_neededRadius_75 ?_
          refine lv_istore (lv' := [(5, .int (((x5 + x6) / (2 : Int32)) + (1 : Int32))), (8, .int ((x5 + x6) / (2 : Int32))), (3, .ref (gb g + x3)), (4, .ref (gb g + x4)), (6, .int x6), (7, .int x7)]) hx hb dX11_neededRadius_76 hl (by decide) rfl (fun ls hl => ?_)
          exact w_X11_neededRadius_78 C hr hT hSh ih σ7 x3 x4 (((x5 + x6) / (2 : Int32)) + (1 : Int32)) x6 x7 h hx3 hx4 H locs ls S (lv_sub hl [2, 3, 0, 4, 5] rfl)
        · have h := it_n c8 h
          refine lv_iload hx hb dX11_neededRadius_65 (lv_at hl 0 rfl) ?_
          refine lv_istore (lv' := [(6, .int ((x5 + x6) / (2 : Int32))), (8, .int ((x5 + x6) / (2 : Int32))), (3, .ref (gb g + x3)), (4, .ref (gb g + x4)), (5, .int x5), (7, .int x7)]) hx hb dX11_neededRadius_67 hl (by decide) rfl (fun ls hl => ?_)
          refine lv_goto (tgt := 78) hx hb dX11_neededRadius_69 (by decide) ?_
          exact w_X11_neededRadius_78 C hr hT hSh ih σ7 x3 x4 x5 ((x5 + x6) / (2 : Int32)) x7 h hx3 hx4 H locs ls S (lv_sub hl [2, 3, 4, 0, 5] rfl)
set_option maxHeartbeats 4000000 in
set_option maxRecDepth 100000 in
theorem ok_X11_neededRadius {l : Launch} {g : GL} {R : Nat → Nat → Nat} {L : Nat → Nat → Int64} {N : Nat} {σ : SI} {x0 : Nat} {x1 : Int32} {x2 : Int32} {r : ((Int32 ⊕ Nat) × SI)} (h : f_X11_neededRadius N R σ x0 x1 x2 = some r) (hSh : ShR R) (hx0 : Ok 194 x0 11) : CtX l g 8 yX11_neededRadius cX11_neededRadius 9 (some .int) 194 194 2 12 [.ref (gb g + x0), .int x1, .int x2] (mkS σ R L) (PIX R L r) (PX R L r) := by
  refine vx_ofW (cc := cX11_neededRadius) (maxL := 9) (ret := (some .int)) (by decide) rfl ?_
  intro p e s m args below meth c s₁ B hml hT hv
  obtain ⟨rfl, hE, hLo, hWd⟩ := hv
  have hr : meth.sig.returnType = (some .int) := B.returns
  have C : Cx l g p s m meth c cX11_neededRadius 9 RX11 := ⟨B.exec, B.bytes, hml, findClass_of_methodNamed B.named, hE, hLo, B.notSynchronized⟩
  have S : S2 g s σ R L s.heap [] := ⟨hWd, va_S.rf⟩
  have hx := C.1
  have hb := C.2.1
  have hl := lv_entry ([.ref (gb g + x0), .int x1, .int x2]) (n := 9) (Nat.le_of_ble_eq_true rfl)
  rw [lg_entry_eq]
  generalize (lg_sl ([.ref (gb g + x0), .int x1, .int x2]) ++ List.replicate (9 - (lg_sl ([.ref (gb g + x0), .int x1, .int x2])).length) Slot.unset).toArray = ls at hl ⊢
  have hl : lv_has ls 9 [(0, .ref (gb g + x0)), (1, .int x1), (2, .int x2)] := hl
  generalize hH : s.heap = H at S ⊢
  generalize hlc : ([] : List Loc) = locs at S ⊢
  rw [f_X11_neededRadius] at h
  refine lv_aload_n hx hb dX11_neededRadius_0 rfl (lv_at hl 0 rfl) ?_
  refine lv_iload_n hx hb dX11_neededRadius_1 rfl (lv_at hl 1 rfl) ?_
  rcases bdX_el h with ⟨a2, σ2, hc2, h⟩ | ⟨q2, σ2, hc2, hr2⟩
  · refine x_callXR C S KX11 hx0 (ok_X11_blastAt (L := L) hc2 hSh hx0) ⟨cd_X11_blastAt, ni_RX11, ml_RX11_125, in_X11_blastAt, sl_X11_blastAt⟩ ⟨by decide, by decide⟩ rfl (rm_ok (by decide) (by decide)) hl.1 rfl (Nat.le_of_ble_eq_true rfl) ⟨by decide, by decide⟩ dX11_neededRadius_2 hT ⟨by decide, by decide⟩ (fun H locs ho2 S => ?_)
    refine lv_astore_n (lv' := [(3, .ref (gb g + a2)), (0, .ref (gb g + x0)), (1, .int x1), (2, .int x2)]) hx hb dX11_neededRadius_5 rfl hl (by decide) rfl (fun ls hl => ?_)
    refine lv_aload_n hx hb dX11_neededRadius_6 rfl (lv_at hl 1 rfl) ?_
    refine lv_iload_n hx hb dX11_neededRadius_7 rfl (lv_at hl 3 rfl) ?_
    rcases bdX_el h with ⟨a4, σ4, hc4, h⟩ | ⟨q4, σ4, hc4, hr4⟩
    · refine x_callXR C S KX11 hx0 (ok_X11_roadAt (L := L) hc4 hSh hx0) ⟨cd_X11_roadAt, ni_RX11, ml_RX11_180, in_X11_roadAt, sl_X11_roadAt⟩ ⟨by decide, by decide⟩ rfl (rm_ok (by decide) (by decide)) hl.1 rfl (Nat.le_of_ble_eq_true rfl) ⟨by decide, by decide⟩ dX11_neededRadius_8 hT ⟨by decide, by decide⟩ (fun H locs ho4 S => ?_)
      refine lv_astore (lv' := [(4, .ref (gb g + a4)), (3, .ref (gb g + a2)), (0, .ref (gb g + x0)), (1, .int x1), (2, .int x2)]) hx hb dX11_neededRadius_11 hl (by decide) rfl (fun ls hl => ?_)
      refine lv_iconst (v := (0 : Int32)) hx hb dX11_neededRadius_13 (by decide) ?_
      refine lv_istore (lv' := [(5, .int (0 : Int32)), (4, .ref (gb g + a4)), (3, .ref (gb g + a2)), (0, .ref (gb g + x0)), (1, .int x1), (2, .int x2)]) hx hb dX11_neededRadius_14 hl (by decide) rfl (fun ls hl => ?_)
      refine lv_sipush (v := (1500 : Int32)) hx hb dX11_neededRadius_16 (by decide) ?_
      refine lv_istore (lv' := [(6, .int (1500 : Int32)), (5, .int (0 : Int32)), (4, .ref (gb g + a4)), (3, .ref (gb g + a2)), (0, .ref (gb g + x0)), (1, .int x1), (2, .int x2)]) hx hb dX11_neededRadius_19 hl (by decide) rfl (fun ls hl => ?_)
      refine lv_iconst (v := (0 : Int32)) hx hb dX11_neededRadius_21 (by decide) ?_
      refine lv_istore (lv' := [(7, .int (0 : Int32)), (6, .int (1500 : Int32)), (5, .int (0 : Int32)), (4, .ref (gb g + a4)), (3, .ref (gb g + a2)), (0, .ref (gb g + x0)), (1, .int x1), (2, .int x2)]) hx hb dX11_neededRadius_22 hl (by decide) rfl (fun ls hl => ?_)
      exact w_X11_neededRadius_24 C hr hT hSh N σ4 a2 a4 (0 : Int32) (1500 : Int32) (0 : Int32) h ho2 ho4 H locs ls S (lv_sub hl [4, 3, 2, 1, 0] rfl)
    · exact x_callXX C S KX11 hx0 (ok_X11_roadAt (L := L) hc4 hSh hx0) n_PRX ⟨cd_X11_roadAt, ni_RX11, ml_RX11_180, in_X11_roadAt, sl_X11_roadAt⟩ ⟨by decide, by decide⟩ rfl (rm_ok (by decide) (by decide)) hl.1 rfl (Nat.le_of_ble_eq_true rfl) ⟨by decide, by decide⟩ dX11_neededRadius_8 hT ⟨by decide, by decide⟩ hr4
  · exact x_callXX C S KX11 hx0 (ok_X11_blastAt (L := L) hc2 hSh hx0) n_PRX ⟨cd_X11_blastAt, ni_RX11, ml_RX11_125, in_X11_blastAt, sl_X11_blastAt⟩ ⟨by decide, by decide⟩ rfl (rm_ok (by decide) (by decide)) hl.1 rfl (Nat.le_of_ble_eq_true rfl) ⟨by decide, by decide⟩ dX11_neededRadius_2 hT ⟨by decide, by decide⟩ hr2
theorem dX11_dustHours_0 : decode cX11_dustHours 0 = .ok (.aload_n 0, 1) := by decide +kernel
theorem dX11_dustHours_1 : decode cX11_dustHours 1 = .ok (.iload_n 1, 1) := by decide +kernel
theorem dX11_dustHours_2 : decode cX11_dustHours 2 = .ok (.invokevirtual 125, 3) := by decide +kernel
theorem dX11_dustHours_5 : decode cX11_dustHours 5 = .ok (.astore_n 2, 1) := by decide +kernel
theorem dX11_dustHours_6 : decode cX11_dustHours 6 = .ok (.iconst 0, 1) := by decide +kernel
theorem dX11_dustHours_7 : decode cX11_dustHours 7 = .ok (.istore_n 3, 1) := by decide +kernel
theorem dX11_dustHours_8 : decode cX11_dustHours 8 = .ok (.iconst 0, 1) := by decide +kernel
theorem dX11_dustHours_9 : decode cX11_dustHours 9 = .ok (.istore 4, 2) := by decide +kernel
theorem dX11_dustHours_11 : decode cX11_dustHours 11 = .ok (.iload 4, 2) := by decide +kernel
theorem dX11_dustHours_13 : decode cX11_dustHours 13 = .ok (.bipush 24, 2) := by decide +kernel
theorem dX11_dustHours_15 : decode cX11_dustHours 15 = .ok (.if_icmp .ge 26, 3) := by decide +kernel
theorem dX11_dustHours_18 : decode cX11_dustHours 18 = .ok (.aload_n 2, 1) := by decide +kernel
theorem dX11_dustHours_19 : decode cX11_dustHours 19 = .ok (.getfield 193, 3) := by decide +kernel
theorem dX11_dustHours_22 : decode cX11_dustHours 22 = .ok (.iload 4, 2) := by decide +kernel
theorem dX11_dustHours_24 : decode cX11_dustHours 24 = .ok (.iaload, 1) := by decide +kernel
theorem dX11_dustHours_25 : decode cX11_dustHours 25 = .ok (.ifCond .eq 10, 3) := by decide +kernel
theorem dX11_dustHours_28 : decode cX11_dustHours 28 = .ok (.iload_n 3, 1) := by decide +kernel
theorem dX11_dustHours_29 : decode cX11_dustHours 29 = .ok (.iconst 1, 1) := by decide +kernel
theorem dX11_dustHours_30 : decode cX11_dustHours 30 = .ok (.iload 4, 2) := by decide +kernel
theorem dX11_dustHours_32 : decode cX11_dustHours 32 = .ok (.ishl, 1) := by decide +kernel
theorem dX11_dustHours_33 : decode cX11_dustHours 33 = .ok (.ior, 1) := by decide +kernel
theorem dX11_dustHours_34 : decode cX11_dustHours 34 = .ok (.istore_n 3, 1) := by decide +kernel
theorem dX11_dustHours_35 : decode cX11_dustHours 35 = .ok (.iinc 4 1, 3) := by decide +kernel
theorem dX11_dustHours_38 : decode cX11_dustHours 38 = .ok (.goto (-27), 3) := by decide +kernel
theorem dX11_dustHours_41 : decode cX11_dustHours 41 = .ok (.iload_n 3, 1) := by decide +kernel
theorem dX11_dustHours_42 : decode cX11_dustHours 42 = .ok (.ireturn, 1) := by decide +kernel
def f_X11_dustHours_35 (N : Nat) (R : Nat → Nat → Nat) (k11 : SI → Nat → Int32 → Int32 → Option ((Int32 ⊕ Nat) × SI)) (σ : SI) (x2 : Nat) (x3 : Int32) (x4 : Int32) : Option ((Int32 ⊕ Nat) × SI) := k11 σ x2 x3 (x4 + 1)
def f_X11_dustHours_11 (N : Nat) (R : Nat → Nat → Nat) : Nat → SI → Nat → Int32 → Int32 → Option ((Int32 ⊕ Nat) × SI)
  | 0, _, _, _, _ => none
  | n + 1, σ, x2, x3, x4 => if (24 : Int32) ≤ x4 then (some (.inl x3, σ)) else (ck x4 24 (if (σ (R x2 3) x4.toNatClampNeg) = 0 then (f_X11_dustHours_35 N R (fun σ x2 x3 x4 => f_X11_dustHours_11 N R n σ x2 x3 x4) σ x2 x3 x4) else (f_X11_dustHours_35 N R (fun σ x2 x3 x4 => f_X11_dustHours_11 N R n σ x2 x3 x4) σ x2 (x3 ||| ((1 : Int32) <<< (x4 &&& 31))) x4)))
def f_X11_dustHours (N : Nat) (R : Nat → Nat → Nat) (σ : SI) (x0 : Nat) (x1 : Int32) : Option ((Int32 ⊕ Nat) × SI) := bdX (f_X11_blastAt N R σ x0 x1) (fun a2 σ2 => f_X11_dustHours_11 N R N σ2 a2 (0 : Int32) (0 : Int32))
set_option maxHeartbeats 4000000 in
set_option maxRecDepth 100000 in
theorem w_X11_dustHours_35 {l : Launch} {g : GL} {p : Program} {e : Jvm.Env} {s : State} {m : MethodId} {args : Array Value} {below : List Frame} {meth : Method} {c : Code} {R : Nat → Nat → Nat} {L : Nat → Nat → Int64} {r : ((Int32 ⊕ Nat) × SI)} {N : Nat} {k11 : SI → Nat → Int32 → Int32 → Option ((Int32 ⊕ Nat) × SI)} (C : Cx l g p s m meth c cX11_dustHours 5 RX11) (hr : meth.sig.returnType = (some .int)) (hT : ∀ x ∈ c.exceptionTable.toList, False) (hSh : ShR R) (hk11 : ∀ (σ : SI) (x2 : Nat) (x3 : Int32) (x4 : Int32), k11 σ x2 x3 x4 = some r → Ok 194 x2 0 → ∀ (H : Heap) (locs : List Loc) (ls : Array Slot), S2 g s σ R L H locs → lv_has ls 5 [(2, .ref (gb g + x2)), (3, .int x3), (4, .int x4)] → W p l e (rmd 8 1 6) s m args below meth c H locs 1 (6 * 1) (vx_MQ below (Qg g 194 (PIX R L r)) (Xg g 194 (PX R L r)) args s 1 6 (gA g)) (F0 m 11 ls [])) : ∀ (σ : SI) (x2 : Nat) (x3 : Int32) (x4 : Int32), f_X11_dustHours_35 N R k11 σ x2 x3 x4 = some r → Ok 194 x2 0 → ∀ (H : Heap) (locs : List Loc) (ls : Array Slot), S2 g s σ R L H locs → lv_has ls 5 [(2, .ref (gb g + x2)), (3, .int x3), (4, .int x4)] → W p l e (rmd 8 1 6) s m args below meth c H locs 1 (6 * 1) (vx_MQ below (Qg g 194 (PIX R L r)) (Xg g 194 (PX R L r)) args s 1 6 (gA g)) (F0 m 35 ls []) := by
  have hx := C.1
  have hb := C.2.1
  intro σ x2 x3 x4 h hx2 H locs ls S hl
  rw [f_X11_dustHours_35] at h
  refine lv_iinc (v := x4 + 1) (lv' := [(4, .int (x4 + 1)), (2, .ref (gb g + x2)), (3, .int x3)]) hx hb dX11_dustHours_35 hl (k := 2) rfl rfl (by decide) rfl (fun ls hl => ?_)
  refine lv_goto (tgt := 11) hx hb dX11_dustHours_38 (by decide) ?_
  exact hk11 σ x2 x3 (x4 + 1) h hx2 H locs ls S (lv_sub hl [1, 2, 0] rfl)
set_option maxHeartbeats 4000000 in
set_option maxRecDepth 100000 in
theorem w_X11_dustHours_11 {l : Launch} {g : GL} {p : Program} {e : Jvm.Env} {s : State} {m : MethodId} {args : Array Value} {below : List Frame} {meth : Method} {c : Code} {R : Nat → Nat → Nat} {L : Nat → Nat → Int64} {r : ((Int32 ⊕ Nat) × SI)} {N : Nat} (C : Cx l g p s m meth c cX11_dustHours 5 RX11) (hr : meth.sig.returnType = (some .int)) (hT : ∀ x ∈ c.exceptionTable.toList, False) (hSh : ShR R) : ∀ (n : Nat) (σ : SI) (x2 : Nat) (x3 : Int32) (x4 : Int32), f_X11_dustHours_11 N R n σ x2 x3 x4 = some r → Ok 194 x2 0 → ∀ (H : Heap) (locs : List Loc) (ls : Array Slot), S2 g s σ R L H locs → lv_has ls 5 [(2, .ref (gb g + x2)), (3, .int x3), (4, .int x4)] → W p l e (rmd 8 1 6) s m args below meth c H locs 1 (6 * 1) (vx_MQ below (Qg g 194 (PIX R L r)) (Xg g 194 (PX R L r)) args s 1 6 (gA g)) (F0 m 11 ls []) := by
  have hx := C.1
  have hb := C.2.1
  intro n
  induction n with
  | zero =>
    intro σ x2 x3 x4 h
    cases (show (none : Option ((Int32 ⊕ Nat) × SI)) = some r from h)
  | succ n ih =>
    intro σ x2 x3 x4 h hx2 H locs ls S hl
    rw [f_X11_dustHours_11] at h
    refine lv_iload hx hb dX11_dustHours_11 (lv_at hl 2 rfl) ?_
    refine lv_bipush (v := (24 : Int32)) hx hb dX11_dustHours_13 (by decide) ?_
    refine lv_icmp_ge (tgt := 41) hx hb dX11_dustHours_15 (by decide) (fun c3 => ?_) (fun c3 => ?_)
    · have h := it_p c3 h
      refine lv_iload_n hx hb dX11_dustHours_41 rfl (lv_at hl 1 rfl) ?_
      exact x_iretX C S hr (by decide) (by decide) h dX11_dustHours_42
    · have h := it_n c3 h
      refine lv_aload_n hx hb dX11_dustHours_18 rfl (lv_at hl 0 rfl) ?_
      have hR4 : Ok 194 (R x2 3) 10024 := hSh x2 0 3 10024 hx2.1 rfl
      refine x_getR C S KX0 hx2 3 (by decide) rfl rfl fl_RX11_193 hR4 dX11_dustHours_19 ?_
      refine lv_iload hx hb dX11_dustHours_22 (lv_at hl 2 rfl) ?_
      obtain ⟨hi5, h⟩ := ck_el h
      refine x_iald (len := 24) C S (by decide) hR4 hi5 dX11_dustHours_24 ?_
      refine lv_if_eq (tgt := 35) hx hb dX11_dustHours_25 (by decide) (fun c6 => ?_) (fun c6 => ?_)
      · have h := it_p c6 h
        exact w_X11_dustHours_35 C hr hT hSh ih σ x2 x3 x4 h hx2 H locs ls S (lv_sub hl [0, 1, 2] rfl)
      · have h := it_n c6 h
        refine lv_iload_n hx hb dX11_dustHours_28 rfl (lv_at hl 1 rfl) ?_
        refine lv_iconst (v := (1 : Int32)) hx hb dX11_dustHours_29 (by decide) ?_
        refine lv_iload hx hb dX11_dustHours_30 (lv_at hl 2 rfl) ?_
        refine lv_ishl hx hb dX11_dustHours_32 ?_
        refine lv_ior hx hb dX11_dustHours_33 ?_
        refine lv_istore_n (lv' := [(3, .int (x3 ||| ((1 : Int32) <<< (x4 &&& 31)))), (2, .ref (gb g + x2)), (4, .int x4)]) hx hb dX11_dustHours_34 rfl hl (by decide) rfl (fun ls hl => ?_)
        exact w_X11_dustHours_35 C hr hT hSh ih σ x2 (x3 ||| ((1 : Int32) <<< (x4 &&& 31))) x4 h hx2 H locs ls S (lv_sub hl [1, 0, 2] rfl)
set_option maxHeartbeats 4000000 in
set_option maxRecDepth 100000 in
theorem ok_X11_dustHours {l : Launch} {g : GL} {R : Nat → Nat → Nat} {L : Nat → Nat → Int64} {N : Nat} {σ : SI} {x0 : Nat} {x1 : Int32} {r : ((Int32 ⊕ Nat) × SI)} (h : f_X11_dustHours N R σ x0 x1 = some r) (hSh : ShR R) (hx0 : Ok 194 x0 11) : CtX l g 8 yX11_dustHours cX11_dustHours 5 (some .int) 194 194 1 6 [.ref (gb g + x0), .int x1] (mkS σ R L) (PIX R L r) (PX R L r) := by
  refine vx_ofW (cc := cX11_dustHours) (maxL := 5) (ret := (some .int)) (by decide) rfl ?_
  intro p e s m args below meth c s₁ B hml hT hv
  obtain ⟨rfl, hE, hLo, hWd⟩ := hv
  have hr : meth.sig.returnType = (some .int) := B.returns
  have C : Cx l g p s m meth c cX11_dustHours 5 RX11 := ⟨B.exec, B.bytes, hml, findClass_of_methodNamed B.named, hE, hLo, B.notSynchronized⟩
  have S : S2 g s σ R L s.heap [] := ⟨hWd, va_S.rf⟩
  have hx := C.1
  have hb := C.2.1
  have hl := lv_entry ([.ref (gb g + x0), .int x1]) (n := 5) (Nat.le_of_ble_eq_true rfl)
  rw [lg_entry_eq]
  generalize (lg_sl ([.ref (gb g + x0), .int x1]) ++ List.replicate (5 - (lg_sl ([.ref (gb g + x0), .int x1])).length) Slot.unset).toArray = ls at hl ⊢
  have hl : lv_has ls 5 [(0, .ref (gb g + x0)), (1, .int x1)] := hl
  generalize hH : s.heap = H at S ⊢
  generalize hlc : ([] : List Loc) = locs at S ⊢
  rw [f_X11_dustHours] at h
  refine lv_aload_n hx hb dX11_dustHours_0 rfl (lv_at hl 0 rfl) ?_
  refine lv_iload_n hx hb dX11_dustHours_1 rfl (lv_at hl 1 rfl) ?_
  rcases bdX_el h with ⟨a2, σ2, hc2, h⟩ | ⟨q2, σ2, hc2, hr2⟩
  · refine x_callXR C S KX11 hx0 (ok_X11_blastAt (L := L) hc2 hSh hx0) ⟨cd_X11_blastAt, ni_RX11, ml_RX11_125, in_X11_blastAt, sl_X11_blastAt⟩ ⟨by decide, by decide⟩ rfl (rm_ok (by decide) (by decide)) hl.1 rfl (Nat.le_of_ble_eq_true rfl) ⟨by decide, by decide⟩ dX11_dustHours_2 hT ⟨by decide, by decide⟩ (fun H locs ho2 S => ?_)
    refine lv_astore_n (lv' := [(2, .ref (gb g + a2)), (0, .ref (gb g + x0)), (1, .int x1)]) hx hb dX11_dustHours_5 rfl hl (by decide) rfl (fun ls hl => ?_)
    refine lv_iconst (v := (0 : Int32)) hx hb dX11_dustHours_6 (by decide) ?_
    refine lv_istore_n (lv' := [(3, .int (0 : Int32)), (2, .ref (gb g + a2)), (0, .ref (gb g + x0)), (1, .int x1)]) hx hb dX11_dustHours_7 rfl hl (by decide) rfl (fun ls hl => ?_)
    refine lv_iconst (v := (0 : Int32)) hx hb dX11_dustHours_8 (by decide) ?_
    refine lv_istore (lv' := [(4, .int (0 : Int32)), (3, .int (0 : Int32)), (2, .ref (gb g + a2)), (0, .ref (gb g + x0)), (1, .int x1)]) hx hb dX11_dustHours_9 hl (by decide) rfl (fun ls hl => ?_)
    exact w_X11_dustHours_11 C hr hT hSh N σ2 a2 (0 : Int32) (0 : Int32) h ho2 H locs ls S (lv_sub hl [2, 1, 0] rfl)
  · exact x_callXX C S KX11 hx0 (ok_X11_blastAt (L := L) hc2 hSh hx0) n_PRX ⟨cd_X11_blastAt, ni_RX11, ml_RX11_125, in_X11_blastAt, sl_X11_blastAt⟩ ⟨by decide, by decide⟩ rfl (rm_ok (by decide) (by decide)) hl.1 rfl (Nat.le_of_ble_eq_true rfl) ⟨by decide, by decide⟩ dX11_dustHours_2 hT ⟨by decide, by decide⟩ hr2
theorem dX11_timeOf_0 : decode cX11_timeOf 0 = .ok (.aload_n 0, 1) := by decide +kernel
theorem dX11_timeOf_1 : decode cX11_timeOf 1 = .ok (.iload_n 1, 1) := by decide +kernel
theorem dX11_timeOf_2 : decode cX11_timeOf 2 = .ok (.invokevirtual 225, 3) := by decide +kernel
theorem dX11_timeOf_5 : decode cX11_timeOf 5 = .ok (.aload_n 0, 1) := by decide +kernel
theorem dX11_timeOf_6 : decode cX11_timeOf 6 = .ok (.getfield 61, 3) := by decide +kernel
theorem dX11_timeOf_9 : decode cX11_timeOf 9 = .ok (.getfield 228, 3) := by decide +kernel
theorem dX11_timeOf_12 : decode cX11_timeOf 12 = .ok (.iload_n 1, 1) := by decide +kernel
theorem dX11_timeOf_13 : decode cX11_timeOf 13 = .ok (.iaload, 1) := by decide +kernel
theorem dX11_timeOf_14 : decode cX11_timeOf 14 = .ok (.ireturn, 1) := by decide +kernel
def f_X11_timeOf (N : Nat) (R : Nat → Nat → Nat) (σ : SI) (x0 : Nat) (x1 : Int32) : Option ((Int32 ⊕ Nat) × SI) := bdX (f_X11_needBlast N R σ x0 x1) (fun _ σ2 => ck x1 6 (some (.inl (σ2 (R (R x0 8) 6) x1.toNatClampNeg), σ2)))
set_option maxHeartbeats 4000000 in
set_option maxRecDepth 100000 in
theorem ok_X11_timeOf {l : Launch} {g : GL} {R : Nat → Nat → Nat} {L : Nat → Nat → Int64} {N : Nat} {σ : SI} {x0 : Nat} {x1 : Int32} {r : ((Int32 ⊕ Nat) × SI)} (h : f_X11_timeOf N R σ x0 x1 = some r) (hSh : ShR R) (hx0 : Ok 194 x0 11) : CtX l g 7 yX11_timeOf cX11_timeOf 2 (some .int) 194 194 1 6 [.ref (gb g + x0), .int x1] (mkS σ R L) (PIX R L r) (PX R L r) := by
  refine vx_ofW (cc := cX11_timeOf) (maxL := 2) (ret := (some .int)) (by decide) rfl ?_
  intro p e s m args below meth c s₁ B hml hT hv
  obtain ⟨rfl, hE, hLo, hWd⟩ := hv
  have hr : meth.sig.returnType = (some .int) := B.returns
  have C : Cx l g p s m meth c cX11_timeOf 2 RX11 := ⟨B.exec, B.bytes, hml, findClass_of_methodNamed B.named, hE, hLo, B.notSynchronized⟩
  have S : S2 g s σ R L s.heap [] := ⟨hWd, va_S.rf⟩
  have hx := C.1
  have hb := C.2.1
  have hl := lv_entry ([.ref (gb g + x0), .int x1]) (n := 2) (Nat.le_of_ble_eq_true rfl)
  rw [lg_entry_eq]
  generalize (lg_sl ([.ref (gb g + x0), .int x1]) ++ List.replicate (2 - (lg_sl ([.ref (gb g + x0), .int x1])).length) Slot.unset).toArray = ls at hl ⊢
  have hl : lv_has ls 2 [(0, .ref (gb g + x0)), (1, .int x1)] := hl
  generalize hH : s.heap = H at S ⊢
  generalize hlc : ([] : List Loc) = locs at S ⊢
  rw [f_X11_timeOf] at h
  refine lv_aload_n hx hb dX11_timeOf_0 rfl (lv_at hl 0 rfl) ?_
  refine lv_iload_n hx hb dX11_timeOf_1 rfl (lv_at hl 1 rfl) ?_
  rcases bdX_el h with ⟨a2, σ2, hc2, h⟩ | ⟨q2, σ2, hc2, hr2⟩
  · refine x_callXV C S KX11 hx0 (ok_X11_needBlast (L := L) hc2 hSh hx0) ⟨cd_X11_needBlast, ni_RX11, ml_RX11_225, in_X11_needBlast, sl_X11_needBlast⟩ ⟨by decide, by decide⟩ rfl (rm_ok (by decide) (by decide)) hl.1 rfl (Nat.le_of_ble_eq_true rfl) ⟨by decide, by decide⟩ dX11_timeOf_2 hT ⟨by decide, by decide⟩ (fun H locs S => ?_)
    refine lv_aload_n hx hb dX11_timeOf_5 rfl (lv_at hl 0 rfl) ?_
    have hR3 : Ok 194 (R x0 8) 9 := hSh x0 11 8 9 hx0.1 rfl
    refine x_getR C S KX11 hx0 8 (by decide) rfl rfl fl_RX11_61 hR3 dX11_timeOf_6 ?_
    have hR4 : Ok 194 (R (R x0 8) 6) 10006 := hSh (R x0 8) 9 6 10006 hR3.1 rfl
    refine x_getR C S KX9 hR3 6 (by decide) rfl rfl fl_RX11_228 hR4 dX11_timeOf_9 ?_
    refine lv_iload_n hx hb dX11_timeOf_12 rfl (lv_at hl 1 rfl) ?_
    obtain ⟨hi5, h⟩ := ck_el h
    refine x_iald (len := 6) C S (by decide) hR4 hi5 dX11_timeOf_13 ?_
    exact x_iretX C S hr (by decide) (by decide) h dX11_timeOf_14
  · exact x_callXX C S KX11 hx0 (ok_X11_needBlast (L := L) hc2 hSh hx0) n_PVX ⟨cd_X11_needBlast, ni_RX11, ml_RX11_225, in_X11_needBlast, sl_X11_needBlast⟩ ⟨by decide, by decide⟩ rfl (rm_ok (by decide) (by decide)) hl.1 rfl (Nat.le_of_ble_eq_true rfl) ⟨by decide, by decide⟩ dX11_timeOf_2 hT ⟨by decide, by decide⟩ hr2
theorem dX11_isFired_0 : decode cX11_isFired 0 = .ok (.aload_n 0, 1) := by decide +kernel
theorem dX11_isFired_1 : decode cX11_isFired 1 = .ok (.iload_n 1, 1) := by decide +kernel
theorem dX11_isFired_2 : decode cX11_isFired 2 = .ok (.invokevirtual 125, 3) := by decide +kernel
theorem dX11_isFired_5 : decode cX11_isFired 5 = .ok (.getfield 231, 3) := by decide +kernel
theorem dX11_isFired_8 : decode cX11_isFired 8 = .ok (.ireturn, 1) := by decide +kernel
def f_X11_isFired (N : Nat) (R : Nat → Nat → Nat) (σ : SI) (x0 : Nat) (x1 : Int32) : Option ((Int32 ⊕ Nat) × SI) := bdX (f_X11_blastAt N R σ x0 x1) (fun a2 σ2 => cb (σ2 a2 13) (some (.inl (σ2 a2 13), σ2)))
set_option maxHeartbeats 4000000 in
set_option maxRecDepth 100000 in
theorem ok_X11_isFired {l : Launch} {g : GL} {R : Nat → Nat → Nat} {L : Nat → Nat → Int64} {N : Nat} {σ : SI} {x0 : Nat} {x1 : Int32} {r : ((Int32 ⊕ Nat) × SI)} (h : f_X11_isFired N R σ x0 x1 = some r) (hSh : ShR R) (hx0 : Ok 194 x0 11) : CtX l g 8 yX11_isFired cX11_isFired 2 (some .boolean) 194 194 1 6 [.ref (gb g + x0), .int x1] (mkS σ R L) (PIX R L r) (PX R L r) := by
  refine vx_ofW (cc := cX11_isFired) (maxL := 2) (ret := (some .boolean)) (by decide) rfl ?_
  intro p e s m args below meth c s₁ B hml hT hv
  obtain ⟨rfl, hE, hLo, hWd⟩ := hv
  have hr : meth.sig.returnType = (some .boolean) := B.returns
  have C : Cx l g p s m meth c cX11_isFired 2 RX11 := ⟨B.exec, B.bytes, hml, findClass_of_methodNamed B.named, hE, hLo, B.notSynchronized⟩
  have S : S2 g s σ R L s.heap [] := ⟨hWd, va_S.rf⟩
  have hx := C.1
  have hb := C.2.1
  have hl := lv_entry ([.ref (gb g + x0), .int x1]) (n := 2) (Nat.le_of_ble_eq_true rfl)
  rw [lg_entry_eq]
  generalize (lg_sl ([.ref (gb g + x0), .int x1]) ++ List.replicate (2 - (lg_sl ([.ref (gb g + x0), .int x1])).length) Slot.unset).toArray = ls at hl ⊢
  have hl : lv_has ls 2 [(0, .ref (gb g + x0)), (1, .int x1)] := hl
  generalize hH : s.heap = H at S ⊢
  generalize hlc : ([] : List Loc) = locs at S ⊢
  rw [f_X11_isFired] at h
  refine lv_aload_n hx hb dX11_isFired_0 rfl (lv_at hl 0 rfl) ?_
  refine lv_iload_n hx hb dX11_isFired_1 rfl (lv_at hl 1 rfl) ?_
  rcases bdX_el h with ⟨a2, σ2, hc2, h⟩ | ⟨q2, σ2, hc2, hr2⟩
  · refine x_callXR C S KX11 hx0 (ok_X11_blastAt (L := L) hc2 hSh hx0) ⟨cd_X11_blastAt, ni_RX11, ml_RX11_125, in_X11_blastAt, sl_X11_blastAt⟩ ⟨by decide, by decide⟩ rfl (rm_ok (by decide) (by decide)) hl.1 rfl (Nat.le_of_ble_eq_true rfl) ⟨by decide, by decide⟩ dX11_isFired_2 hT ⟨by decide, by decide⟩ (fun H locs ho2 S => ?_)
    refine x_getI C S KX0 ho2 13 (by decide) rfl rfl fl_RX11_231 dX11_isFired_5 ?_
    obtain ⟨hb3, h⟩ := cb_el h
    exact x_zretX C S hr (by decide) (by decide) hb3 h dX11_isFired_8
  · exact x_callXX C S KX11 hx0 (ok_X11_blastAt (L := L) hc2 hSh hx0) n_PRX ⟨cd_X11_blastAt, ni_RX11, ml_RX11_125, in_X11_blastAt, sl_X11_blastAt⟩ ⟨by decide, by decide⟩ rfl (rm_ok (by decide) (by decide)) hl.1 rfl (Nat.le_of_ble_eq_true rfl) ⟨by decide, by decide⟩ dX11_isFired_2 hT ⟨by decide, by decide⟩ hr2
theorem dX12_seeks_0 : decode cX12_seeks 0 = .ok (.iload_n 1, 1) := by decide +kernel
theorem dX12_seeks_1 : decode cX12_seeks 1 = .ok (.aload_n 0, 1) := by decide +kernel
theorem dX12_seeks_2 : decode cX12_seeks 2 = .ok (.invokevirtual 142, 3) := by decide +kernel
theorem dX12_seeks_5 : decode cX12_seeks 5 = .ok (.if_icmp .ne 80, 3) := by decide +kernel
theorem dX12_seeks_8 : decode cX12_seeks 8 = .ok (.iconst 0, 1) := by decide +kernel
theorem dX12_seeks_9 : decode cX12_seeks 9 = .ok (.istore_n 2, 1) := by decide +kernel
theorem dX12_seeks_10 : decode cX12_seeks 10 = .ok (.iconst 0, 1) := by decide +kernel
theorem dX12_seeks_11 : decode cX12_seeks 11 = .ok (.istore_n 3, 1) := by decide +kernel
theorem dX12_seeks_12 : decode cX12_seeks 12 = .ok (.iload_n 3, 1) := by decide +kernel
theorem dX12_seeks_13 : decode cX12_seeks 13 = .ok (.aload_n 0, 1) := by decide +kernel
theorem dX12_seeks_14 : decode cX12_seeks 14 = .ok (.getfield 88, 3) := by decide +kernel
theorem dX12_seeks_17 : decode cX12_seeks 17 = .ok (.iconst 1, 1) := by decide +kernel
theorem dX12_seeks_18 : decode cX12_seeks 18 = .ok (.iaload, 1) := by decide +kernel
theorem dX12_seeks_19 : decode cX12_seeks 19 = .ok (.if_icmp .ge 17, 3) := by decide +kernel
theorem dX12_seeks_22 : decode cX12_seeks 22 = .ok (.iload_n 2, 1) := by decide +kernel
theorem dX12_seeks_23 : decode cX12_seeks 23 = .ok (.aload_n 0, 1) := by decide +kernel
theorem dX12_seeks_24 : decode cX12_seeks 24 = .ok (.iload_n 3, 1) := by decide +kernel
theorem dX12_seeks_25 : decode cX12_seeks 25 = .ok (.invokevirtual 348, 3) := by decide +kernel
theorem dX12_seeks_28 : decode cX12_seeks 28 = .ok (.iadd, 1) := by decide +kernel
theorem dX12_seeks_29 : decode cX12_seeks 29 = .ok (.istore_n 2, 1) := by decide +kernel
theorem dX12_seeks_30 : decode cX12_seeks 30 = .ok (.iinc 3 1, 3) := by decide +kernel
theorem dX12_seeks_33 : decode cX12_seeks 33 = .ok (.goto (-21), 3) := by decide +kernel
theorem dX12_seeks_36 : decode cX12_seeks 36 = .ok (.aload_n 0, 1) := by decide +kernel
theorem dX12_seeks_37 : decode cX12_seeks 37 = .ok (.getfield 351, 3) := by decide +kernel
theorem dX12_seeks_40 : decode cX12_seeks 40 = .ok (.iconst (-1), 1) := by decide +kernel
theorem dX12_seeks_41 : decode cX12_seeks 41 = .ok (.if_icmp .eq 12, 3) := by decide +kernel
theorem dX12_seeks_44 : decode cX12_seeks 44 = .ok (.iload_n 2, 1) := by decide +kernel
theorem dX12_seeks_45 : decode cX12_seeks 45 = .ok (.aload_n 0, 1) := by decide +kernel
theorem dX12_seeks_46 : decode cX12_seeks 46 = .ok (.getfield 351, 3) := by decide +kernel
theorem dX12_seeks_49 : decode cX12_seeks 49 = .ok (.if_icmp .lt 4, 3) := by decide +kernel
theorem dX12_seeks_52 : decode cX12_seeks 52 = .ok (.return_, 1) := by decide +kernel
theorem dX12_seeks_53 : decode cX12_seeks 53 = .ok (.aload_n 0, 1) := by decide +kernel
theorem dX12_seeks_54 : decode cX12_seeks 54 = .ok (.iload_n 2, 1) := by decide +kernel
theorem dX12_seeks_55 : decode cX12_seeks 55 = .ok (.putfield 351, 3) := by decide +kernel
theorem dX12_seeks_58 : decode cX12_seeks 58 = .ok (.iconst 0, 1) := by decide +kernel
theorem dX12_seeks_59 : decode cX12_seeks 59 = .ok (.istore_n 3, 1) := by decide +kernel
theorem dX12_seeks_60 : decode cX12_seeks 60 = .ok (.iload_n 3, 1) := by decide +kernel
theorem dX12_seeks_61 : decode cX12_seeks 61 = .ok (.bipush 6, 2) := by decide +kernel
theorem dX12_seeks_63 : decode cX12_seeks 63 = .ok (.if_icmp .ge 21, 3) := by decide +kernel
theorem dX12_seeks_66 : decode cX12_seeks 66 = .ok (.aload_n 0, 1) := by decide +kernel
theorem dX12_seeks_67 : decode cX12_seeks 67 = .ok (.getfield 116, 3) := by decide +kernel
theorem dX12_seeks_70 : decode cX12_seeks 70 = .ok (.iload_n 3, 1) := by decide +kernel
theorem dX12_seeks_71 : decode cX12_seeks 71 = .ok (.aload_n 0, 1) := by decide +kernel
theorem dX12_seeks_72 : decode cX12_seeks 72 = .ok (.getfield 113, 3) := by decide +kernel
theorem dX12_seeks_75 : decode cX12_seeks 75 = .ok (.iload_n 3, 1) := by decide +kernel
theorem dX12_seeks_76 : decode cX12_seeks 76 = .ok (.iaload, 1) := by decide +kernel
theorem dX12_seeks_77 : decode cX12_seeks 77 = .ok (.iastore, 1) := by decide +kernel
theorem dX12_seeks_78 : decode cX12_seeks 78 = .ok (.iinc 3 1, 3) := by decide +kernel
theorem dX12_seeks_81 : decode cX12_seeks 81 = .ok (.goto (-21), 3) := by decide +kernel
theorem dX12_seeks_84 : decode cX12_seeks 84 = .ok (.return_, 1) := by decide +kernel
theorem dX12_seeks_85 : decode cX12_seeks 85 = .ok (.aload_n 0, 1) := by decide +kernel
theorem dX12_seeks_86 : decode cX12_seeks 86 = .ok (.iload_n 1, 1) := by decide +kernel
theorem dX12_seeks_87 : decode cX12_seeks 87 = .ok (.invokevirtual 281, 3) := by decide +kernel
theorem dX12_seeks_90 : decode cX12_seeks 90 = .ok (.iconst (-1), 1) := by decide +kernel
theorem dX12_seeks_91 : decode cX12_seeks 91 = .ok (.if_icmp .eq 22, 3) := by decide +kernel
theorem dX12_seeks_94 : decode cX12_seeks 94 = .ok (.aload_n 0, 1) := by decide +kernel
theorem dX12_seeks_95 : decode cX12_seeks 95 = .ok (.getfield 113, 3) := by decide +kernel
theorem dX12_seeks_98 : decode cX12_seeks 98 = .ok (.iload_n 1, 1) := by decide +kernel
theorem dX12_seeks_99 : decode cX12_seeks 99 = .ok (.aload_n 0, 1) := by decide +kernel
theorem dX12_seeks_100 : decode cX12_seeks 100 = .ok (.iload_n 1, 1) := by decide +kernel
theorem dX12_seeks_101 : decode cX12_seeks 101 = .ok (.invokevirtual 281, 3) := by decide +kernel
theorem dX12_seeks_104 : decode cX12_seeks 104 = .ok (.iastore, 1) := by decide +kernel
theorem dX12_seeks_105 : decode cX12_seeks 105 = .ok (.aload_n 0, 1) := by decide +kernel
theorem dX12_seeks_106 : decode cX12_seeks 106 = .ok (.iload_n 1, 1) := by decide +kernel
theorem dX12_seeks_107 : decode cX12_seeks 107 = .ok (.iconst 1, 1) := by decide +kernel
theorem dX12_seeks_108 : decode cX12_seeks 108 = .ok (.iadd, 1) := by decide +kernel
theorem dX12_seeks_109 : decode cX12_seeks 109 = .ok (.invokevirtual 354, 3) := by decide +kernel
theorem dX12_seeks_112 : decode cX12_seeks 112 = .ok (.return_, 1) := by decide +kernel
theorem dX12_seeks_113 : decode cX12_seeks 113 = .ok (.iconst 0, 1) := by decide +kernel
theorem dX12_seeks_114 : decode cX12_seeks 114 = .ok (.istore_n 2, 1) := by decide +kernel
theorem dX12_seeks_115 : decode cX12_seeks 115 = .ok (.iload_n 2, 1) := by decide +kernel
theorem dX12_seeks_116 : decode cX12_seeks 116 = .ok (.aload_n 0, 1) := by decide +kernel
theorem dX12_seeks_117 : decode cX12_seeks 117 = .ok (.invokevirtual 195, 3) := by decide +kernel
theorem dX12_seeks_120 : decode cX12_seeks 120 = .ok (.if_icmp .ge 57, 3) := by decide +kernel
theorem dX12_seeks_123 : decode cX12_seeks 123 = .ok (.aload_n 0, 1) := by decide +kernel
theorem dX12_seeks_124 : decode cX12_seeks 124 = .ok (.getfield 122, 3) := by decide +kernel
theorem dX12_seeks_127 : decode cX12_seeks 127 = .ok (.bipush 12, 2) := by decide +kernel
theorem dX12_seeks_129 : decode cX12_seeks 129 = .ok (.iload_n 1, 1) := by decide +kernel
theorem dX12_seeks_130 : decode cX12_seeks 130 = .ok (.imul, 1) := by decide +kernel
theorem dX12_seeks_131 : decode cX12_seeks 131 = .ok (.iload_n 2, 1) := by decide +kernel
theorem dX12_seeks_132 : decode cX12_seeks 132 = .ok (.iadd, 1) := by decide +kernel
theorem dX12_seeks_133 : decode cX12_seeks 133 = .ok (.baload, 1) := by decide +kernel
theorem dX12_seeks_134 : decode cX12_seeks 134 = .ok (.ifCond .eq 37, 3) := by decide +kernel
theorem dX12_seeks_137 : decode cX12_seeks 137 = .ok (.aload_n 0, 1) := by decide +kernel
theorem dX12_seeks_138 : decode cX12_seeks 138 = .ok (.iload_n 1, 1) := by decide +kernel
theorem dX12_seeks_139 : decode cX12_seeks 139 = .ok (.aload_n 0, 1) := by decide +kernel
theorem dX12_seeks_140 : decode cX12_seeks 140 = .ok (.iload_n 2, 1) := by decide +kernel
theorem dX12_seeks_141 : decode cX12_seeks 141 = .ok (.invokevirtual 302, 3) := by decide +kernel
theorem dX12_seeks_144 : decode cX12_seeks 144 = .ok (.invokevirtual 357, 3) := by decide +kernel
theorem dX12_seeks_147 : decode cX12_seeks 147 = .ok (.ifCond .eq 6, 3) := by decide +kernel
theorem dX12_seeks_150 : decode cX12_seeks 150 = .ok (.goto 21, 3) := by decide +kernel
theorem dX12_seeks_153 : decode cX12_seeks 153 = .ok (.aload_n 0, 1) := by decide +kernel
theorem dX12_seeks_154 : decode cX12_seeks 154 = .ok (.getfield 113, 3) := by decide +kernel
theorem dX12_seeks_157 : decode cX12_seeks 157 = .ok (.iload_n 1, 1) := by decide +kernel
theorem dX12_seeks_158 : decode cX12_seeks 158 = .ok (.aload_n 0, 1) := by decide +kernel
theorem dX12_seeks_159 : decode cX12_seeks 159 = .ok (.iload_n 2, 1) := by decide +kernel
theorem dX12_seeks_160 : decode cX12_seeks 160 = .ok (.invokevirtual 302, 3) := by decide +kernel
theorem dX12_seeks_163 : decode cX12_seeks 163 = .ok (.iastore, 1) := by decide +kernel
theorem dX12_seeks_164 : decode cX12_seeks 164 = .ok (.aload_n 0, 1) := by decide +kernel
theorem dX12_seeks_165 : decode cX12_seeks 165 = .ok (.iload_n 1, 1) := by decide +kernel
theorem dX12_seeks_166 : decode cX12_seeks 166 = .ok (.iconst 1, 1) := by decide +kernel
theorem dX12_seeks_167 : decode cX12_seeks 167 = .ok (.iadd, 1) := by decide +kernel
theorem dX12_seeks_168 : decode cX12_seeks 168 = .ok (.invokevirtual 354, 3) := by decide +kernel
theorem dX12_seeks_171 : decode cX12_seeks 171 = .ok (.iinc 2 1, 3) := by decide +kernel
theorem dX12_seeks_174 : decode cX12_seeks 174 = .ok (.goto (-59), 3) := by decide +kernel
theorem dX12_seeks_177 : decode cX12_seeks 177 = .ok (.return_, 1) := by decide +kernel
def f_X12_seeks_171 (N : Nat) (R : Nat → Nat → Nat) (kr : SI → Nat → Int32 → Option (Unit × SI)) (k115 : SI → Nat → Int32 → Int32 → Option (Unit × SI)) (σ : SI) (x0 : Nat) (x1 : Int32) (x2 : Int32) : Option (Unit × SI) := k115 σ x0 x1 (x2 + 1)
def f_X12_seeks_115 (N : Nat) (R : Nat → Nat → Nat) (kr : SI → Nat → Int32 → Option (Unit × SI)) : Nat → SI → Nat → Int32 → Int32 → Option (Unit × SI)
  | 0, _, _, _, _ => none
  | n + 1, σ, x0, x1, x2 => bd (f_X12_starts N R σ x0) (fun a5 σ5 => if a5 ≤ x2 then (some ((), σ5)) else (ck (((12 : Int32) * x1) + x2) 72 (if (σ5 (R x0 23) (((12 : Int32) * x1) + x2).toNatClampNeg) = 0 then (f_X12_seeks_171 N R kr (fun σ x0 x1 x2 => f_X12_seeks_115 N R kr n σ x0 x1 x2) σ5 x0 x1 x2) else (bd (f_X12_startAt N R σ5 x0 x2) (fun a10 σ10 => bd (f_X12_isTooClose N R σ10 x0 x1 a10) (fun a11 σ11 => if a11 = 0 then (bd (f_X12_startAt N R σ11 x0 x2) (fun a14 σ14 => ck x1 6 (sq (up σ14 (R x0 20) x1.toNatClampNeg a14) (fun σ16 => bd (kr σ16 x0 (x1 + (1 : Int32))) (fun _ σ17 => f_X12_seeks_171 N R kr (fun σ x0 x1 x2 => f_X12_seeks_115 N R kr n σ x0 x1 x2) σ17 x0 x1 x2))))) else (f_X12_seeks_171 N R kr (fun σ x0 x1 x2 => f_X12_seeks_115 N R kr n σ x0 x1 x2) σ11 x0 x1 x2)))))))
def f_X12_seeks_60 (N : Nat) (R : Nat → Nat → Nat) (kr : SI → Nat → Int32 → Option (Unit × SI)) : Nat → SI → Nat → Int32 → Option (Unit × SI)
  | 0, _, _, _ => none
  | n + 1, σ, x0, x3 => if (6 : Int32) ≤ x3 then (some ((), σ)) else (ck x3 6 (ck x3 6 (sq (up σ (R x0 21) x3.toNatClampNeg (σ (R x0 20) x3.toNatClampNeg)) (fun σ33 => f_X12_seeks_60 N R kr n σ33 x0 (x3 + 1)))))
def f_X12_seeks_53 (N : Nat) (R : Nat → Nat → Nat) (kr : SI → Nat → Int32 → Option (Unit × SI)) (σ : SI) (x0 : Nat) (x2 : Int32) : Option (Unit × SI) := sq (up σ x0 24 x2) (fun σ27 => f_X12_seeks_60 N R kr N σ27 x0 (0 : Int32))
def f_X12_seeks_12 (N : Nat) (R : Nat → Nat → Nat) (kr : SI → Nat → Int32 → Option (Unit × SI)) : Nat → SI → Nat → Int32 → Int32 → Option (Unit × SI)
  | 0, _, _, _, _ => none
  | n + 1, σ, x0, x2, x3 => ck (1 : Int32) 417 (if (σ (R x0 11) (1 : Int32).toNatClampNeg) ≤ x3 then (if (σ x0 24) = (-1 : Int32) then (f_X12_seeks_53 N R kr σ x0 x2) else (if x2 < (σ x0 24) then (f_X12_seeks_53 N R kr σ x0 x2) else (some ((), σ)))) else (bd (f_X12_triedClosed N R σ x0 x3) (fun a35 σ35 => f_X12_seeks_12 N R kr n σ35 x0 (x2 + a35) (x3 + 1))))
def f_X12_seeks (N : Nat) (R : Nat → Nat → Nat) : Nat → SI → Nat → Int32 → Option (Unit × SI)
  | 0, _, _, _ => none
  | d + 1, σ, x0, x1 => bd (f_X12_blasts N R σ x0) (fun a1 σ1 => if x1 = a1 then (f_X12_seeks_12 N R (fun σ x0 x1 => f_X12_seeks N R d σ x0 x1) N σ1 x0 (0 : Int32) (0 : Int32)) else (bd (f_X12_time N R σ1 x0 x1) (fun a3 σ3 => if a3 = (-1 : Int32) then (f_X12_seeks_115 N R (fun σ x0 x1 => f_X12_seeks N R d σ x0 x1) N σ3 x0 x1 (0 : Int32)) else (bd (f_X12_time N R σ3 x0 x1) (fun a19 σ19 => ck x1 6 (sq (up σ19 (R x0 20) x1.toNatClampNeg a19) (fun σ21 => bd (f_X12_seeks N R d σ21 x0 (x1 + (1 : Int32))) (fun _ σ22 => some ((), σ22)))))))))
set_option maxHeartbeats 4000000 in
set_option maxRecDepth 100000 in
theorem w_X12_seeks_171 {l : Launch} {g : GL} {p : Program} {e : Jvm.Env} {s : State} {m : MethodId} {args : Array Value} {below : List Frame} {meth : Method} {c : Code} {d : Nat} {R : Nat → Nat → Nat} {L : Nat → Nat → Int64} {r : (Unit × SI)} {N : Nat} {kr : SI → Nat → Int32 → Option (Unit × SI)} {k115 : SI → Nat → Int32 → Int32 → Option (Unit × SI)} (C : Cx l g p s m meth c cX12_seeks 4 RX12) (hr : meth.sig.returnType = none) (hSh : ShR R) (hkr : ∀ (σ : SI) (x0 : Nat) (x1 : Int32) (r : (Unit × SI)), kr σ x0 x1 = some r → Ok 194 x0 12 → Ct l g (3 + d) yX12_seeks cX12_seeks 4 none 194 194 0 0 [.ref (gb g + x0), .int x1] (mkS σ R L) (PV R L r)) (hk115 : ∀ (σ : SI) (x0 : Nat) (x1 : Int32) (x2 : Int32), k115 σ x0 x1 x2 = some r → Ok 194 x0 12 → ∀ (H : Heap) (locs : List Loc) (ls : Array Slot), S2 g s σ R L H locs → lv_has ls 4 [(0, .ref (gb g + x0)), (1, .int x1), (2, .int x2)] → W p l e (rmd (3 + d + 1) 0 0) s m args below meth c H locs 0 0 (MQ below (Qg g 194 (PV R L r)) args s 0 0 (gA g)) (F0 m 115 ls [])) : ∀ (σ : SI) (x0 : Nat) (x1 : Int32) (x2 : Int32), f_X12_seeks_171 N R kr k115 σ x0 x1 x2 = some r → Ok 194 x0 12 → ∀ (H : Heap) (locs : List Loc) (ls : Array Slot), S2 g s σ R L H locs → lv_has ls 4 [(0, .ref (gb g + x0)), (1, .int x1), (2, .int x2)] → W p l e (rmd (3 + d + 1) 0 0) s m args below meth c H locs 0 0 (MQ below (Qg g 194 (PV R L r)) args s 0 0 (gA g)) (F0 m 171 ls []) := by
  have hx := C.1
  have hb := C.2.1
  intro σ x0 x1 x2 h hx0 H locs ls S hl
  rw [f_X12_seeks_171] at h
  refine lv_iinc (v := x2 + 1) (lv' := [(2, .int (x2 + 1)), (0, .ref (gb g + x0)), (1, .int x1)]) hx hb dX12_seeks_171 hl (k := 2) rfl rfl (by decide) rfl (fun ls hl => ?_)
  refine lv_goto (tgt := 115) hx hb dX12_seeks_174 (by decide) ?_
  exact hk115 σ x0 x1 (x2 + 1) h hx0 H locs ls S (lv_sub hl [1, 2, 0] rfl)
set_option maxHeartbeats 4000000 in
set_option maxRecDepth 100000 in
theorem w_X12_seeks_115 {l : Launch} {g : GL} {p : Program} {e : Jvm.Env} {s : State} {m : MethodId} {args : Array Value} {below : List Frame} {meth : Method} {c : Code} {d : Nat} {R : Nat → Nat → Nat} {L : Nat → Nat → Int64} {r : (Unit × SI)} {N : Nat} {kr : SI → Nat → Int32 → Option (Unit × SI)} (C : Cx l g p s m meth c cX12_seeks 4 RX12) (hr : meth.sig.returnType = none) (hSh : ShR R) (hkr : ∀ (σ : SI) (x0 : Nat) (x1 : Int32) (r : (Unit × SI)), kr σ x0 x1 = some r → Ok 194 x0 12 → Ct l g (3 + d) yX12_seeks cX12_seeks 4 none 194 194 0 0 [.ref (gb g + x0), .int x1] (mkS σ R L) (PV R L r)) : ∀ (n : Nat) (σ : SI) (x0 : Nat) (x1 : Int32) (x2 : Int32), f_X12_seeks_115 N R kr n σ x0 x1 x2 = some r → Ok 194 x0 12 → ∀ (H : Heap) (locs : List Loc) (ls : Array Slot), S2 g s σ R L H locs → lv_has ls 4 [(0, .ref (gb g + x0)), (1, .int x1), (2, .int x2)] → W p l e (rmd (3 + d + 1) 0 0) s m args below meth c H locs 0 0 (MQ below (Qg g 194 (PV R L r)) args s 0 0 (gA g)) (F0 m 115 ls []) := by
  have hx := C.1
  have hb := C.2.1
  intro n
  induction n with
  | zero =>
    intro σ x0 x1 x2 h
    cases (show (none : Option (Unit × SI)) = some r from h)
  | succ n ih =>
    intro σ x0 x1 x2 h hx0 H locs ls S hl
    rw [f_X12_seeks_115] at h
    refine lv_iload_n hx hb dX12_seeks_115 rfl (lv_at hl 2 rfl) ?_
    refine lv_aload_n hx hb dX12_seeks_116 rfl (lv_at hl 0 rfl) ?_
    obtain ⟨a5, σ5, hc5, h⟩ := bd_el h
    refine x_callVI C S KX12 hx0 (ok_X12_starts (L := L) hc5 hSh hx0) ⟨cd_X12_starts, ni_RX12, ml_RX12_195, in_X12_starts, sl_X12_starts⟩ ⟨by decide, by decide⟩ rfl (rm_ok (by omega) (by decide)) hl.1 rfl (Nat.le_of_ble_eq_true rfl) ⟨Nat.le_of_ble_eq_true rfl, Nat.le_of_ble_eq_true rfl⟩ dX12_seeks_117 (fun H locs S => ?_)
    refine lv_icmp_ge (tgt := 177) hx hb dX12_seeks_120 (by decide) (fun c6 => ?_) (fun c6 => ?_)
    · have h := it_p c6 h
      exact x_vret C S hr h dX12_seeks_177
    · have h := it_n c6 h
      refine lv_aload_n hx hb dX12_seeks_123 rfl (lv_at hl 0 rfl) ?_
      have hR7 : Ok 194 (R x0 23) 30072 := hSh x0 12 23 30072 hx0.1 rfl
      refine x_getR C S KX12 hx0 23 (by decide) rfl rfl fl_RX12_122 hR7 dX12_seeks_124 ?_
      refine lv_bipush (v := (12 : Int32)) hx hb dX12_seeks_127 (by decide) ?_
      refine lv_iload_n hx hb dX12_seeks_129 rfl (lv_at hl 1 rfl) ?_
      refine lv_imul hx hb dX12_seeks_130 ?_
      refine lv_iload_n hx hb dX12_seeks_131 rfl (lv_at hl 2 rfl) ?_
      refine lv_iadd hx hb dX12_seeks_132 ?_
      obtain ⟨hi8, h⟩ := ck_el h
      refine x_zald (len := 72) C S (by decide) hR7 hi8 dX12_seeks_133 ?_
      refine lv_if_eq (tgt := 171) hx hb dX12_seeks_134 (by decide) (fun c9 => ?_) (fun c9 => ?_)
      · have h := it_p c9 h
        exact w_X12_seeks_171 C hr hSh hkr ih σ5 x0 x1 x2 h hx0 H locs ls S (lv_sub hl [0, 1, 2] rfl)
      · have h := it_n c9 h
        refine lv_aload_n hx hb dX12_seeks_137 rfl (lv_at hl 0 rfl) ?_
        refine lv_iload_n hx hb dX12_seeks_138 rfl (lv_at hl 1 rfl) ?_
        refine lv_aload_n hx hb dX12_seeks_139 rfl (lv_at hl 0 rfl) ?_
        refine lv_iload_n hx hb dX12_seeks_140 rfl (lv_at hl 2 rfl) ?_
        obtain ⟨a10, σ10, hc10, h⟩ := bd_el h
        refine x_callVI C S KX12 hx0 (ok_X12_startAt (L := L) hc10 hSh hx0) ⟨cd_X12_startAt, ni_RX12, ml_RX12_302, in_X12_startAt, sl_X12_startAt⟩ ⟨by decide, by decide⟩ rfl (rm_ok (by omega) (by decide)) hl.1 rfl (Nat.le_of_ble_eq_true rfl) ⟨Nat.le_of_ble_eq_true rfl, Nat.le_of_ble_eq_true rfl⟩ dX12_seeks_141 (fun H locs S => ?_)
        obtain ⟨a11, σ11, hc11, h⟩ := bd_el h
        refine x_callVI C S KX12 hx0 (ok_X12_isTooClose (L := L) hc11 hSh hx0) ⟨cd_X12_isTooClose, ni_RX12, ml_RX12_357, in_X12_isTooClose, sl_X12_isTooClose⟩ ⟨by decide, by decide⟩ rfl (rm_ok (by omega) (by decide)) hl.1 rfl (Nat.le_of_ble_eq_true rfl) ⟨Nat.le_of_ble_eq_true rfl, Nat.le_of_ble_eq_true rfl⟩ dX12_seeks_144 (fun H locs S => ?_)
        refine lv_if_eq (tgt := 153) hx hb dX12_seeks_147 (by decide) (fun c12 => ?_) (fun c12 => ?_)
        · have h := it_p c12 h
          refine lv_aload_n hx hb dX12_seeks_153 rfl (lv_at hl 0 rfl) ?_
          have hR13 : Ok 194 (R x0 20) 10006 := hSh x0 12 20 10006 hx0.1 rfl
          refine x_getR C S KX12 hx0 20 (by decide) rfl rfl fl_RX12_113 hR13 dX12_seeks_154 ?_
          refine lv_iload_n hx hb dX12_seeks_157 rfl (lv_at hl 1 rfl) ?_
          refine lv_aload_n hx hb dX12_seeks_158 rfl (lv_at hl 0 rfl) ?_
          refine lv_iload_n hx hb dX12_seeks_159 rfl (lv_at hl 2 rfl) ?_
          obtain ⟨a14, σ14, hc14, h⟩ := bd_el h
          refine x_callVI C S KX12 hx0 (ok_X12_startAt (L := L) hc14 hSh hx0) ⟨cd_X12_startAt, ni_RX12, ml_RX12_302, in_X12_startAt, sl_X12_startAt⟩ ⟨by decide, by decide⟩ rfl (rm_ok (by omega) (by decide)) hl.1 rfl (Nat.le_of_ble_eq_true rfl) ⟨Nat.le_of_ble_eq_true rfl, Nat.le_of_ble_eq_true rfl⟩ dX12_seeks_160 (fun H locs S => ?_)
          obtain ⟨hi15, h⟩ := ck_el h
          obtain ⟨σ16, hs16, h⟩ := sq_el h
          refine x_iast (len := 6) C S (by decide) hR13 hi15 dX12_seeks_163 hs16 (fun H locs S => ?_)
          refine lv_aload_n hx hb dX12_seeks_164 rfl (lv_at hl 0 rfl) ?_
          refine lv_iload_n hx hb dX12_seeks_165 rfl (lv_at hl 1 rfl) ?_
          refine lv_iconst (v := (1 : Int32)) hx hb dX12_seeks_166 (by decide) ?_
          refine lv_iadd hx hb dX12_seeks_167 ?_
          obtain ⟨a17, σ17, hc17, h⟩ := bd_el h
          refine x_callVV C S KX12 hx0 (hkr σ16 x0 (x1 + (1 : Int32)) (a17, σ17) hc17 hx0) ⟨cd_X12_seeks, ni_RX12, ml_RX12_354, in_X12_seeks, sl_X12_seeks⟩ ⟨by decide, by decide⟩ rfl (rm_ok (by omega) (by decide)) hl.1 rfl (Nat.le_of_ble_eq_true rfl) ⟨Nat.le_of_ble_eq_true rfl, Nat.le_of_ble_eq_true rfl⟩ dX12_seeks_168 (fun H locs S => ?_)
          exact w_X12_seeks_171 C hr hSh hkr ih σ17 x0 x1 x2 h hx0 H locs ls S (lv_sub hl [0, 1, 2] rfl)
        · have h := it_n c12 h
          refine lv_goto (tgt := 171) hx hb dX12_seeks_150 (by decide) ?_
          exact w_X12_seeks_171 C hr hSh hkr ih σ11 x0 x1 x2 h hx0 H locs ls S (lv_sub hl [0, 1, 2] rfl)
set_option maxHeartbeats 4000000 in
set_option maxRecDepth 100000 in
theorem w_X12_seeks_60 {l : Launch} {g : GL} {p : Program} {e : Jvm.Env} {s : State} {m : MethodId} {args : Array Value} {below : List Frame} {meth : Method} {c : Code} {d : Nat} {R : Nat → Nat → Nat} {L : Nat → Nat → Int64} {r : (Unit × SI)} {N : Nat} {kr : SI → Nat → Int32 → Option (Unit × SI)} (C : Cx l g p s m meth c cX12_seeks 4 RX12) (hr : meth.sig.returnType = none) (hSh : ShR R) (hkr : ∀ (σ : SI) (x0 : Nat) (x1 : Int32) (r : (Unit × SI)), kr σ x0 x1 = some r → Ok 194 x0 12 → Ct l g (3 + d) yX12_seeks cX12_seeks 4 none 194 194 0 0 [.ref (gb g + x0), .int x1] (mkS σ R L) (PV R L r)) : ∀ (n : Nat) (σ : SI) (x0 : Nat) (x3 : Int32), f_X12_seeks_60 N R kr n σ x0 x3 = some r → Ok 194 x0 12 → ∀ (H : Heap) (locs : List Loc) (ls : Array Slot), S2 g s σ R L H locs → lv_has ls 4 [(0, .ref (gb g + x0)), (3, .int x3)] → W p l e (rmd (3 + d + 1) 0 0) s m args below meth c H locs 0 0 (MQ below (Qg g 194 (PV R L r)) args s 0 0 (gA g)) (F0 m 60 ls []) := by
  have hx := C.1
  have hb := C.2.1
  intro n
  induction n with
  | zero =>
    intro σ x0 x3 h
    cases (show (none : Option (Unit × SI)) = some r from h)
  | succ n ih =>
    intro σ x0 x3 h hx0 H locs ls S hl
    rw [f_X12_seeks_60] at h
    refine lv_iload_n hx hb dX12_seeks_60 rfl (lv_at hl 1 rfl) ?_
    refine lv_bipush (v := (6 : Int32)) hx hb dX12_seeks_61 (by decide) ?_
    refine lv_icmp_ge (tgt := 84) hx hb dX12_seeks_63 (by decide) (fun c28 => ?_) (fun c28 => ?_)
    · have h := it_p c28 h
      exact x_vret C S hr h dX12_seeks_84
    · have h := it_n c28 h
      refine lv_aload_n hx hb dX12_seeks_66 rfl (lv_at hl 0 rfl) ?_
      have hR29 : Ok 194 (R x0 21) 10006 := hSh x0 12 21 10006 hx0.1 rfl
      refine x_getR C S KX12 hx0 21 (by decide) rfl rfl fl_RX12_116 hR29 dX12_seeks_67 ?_
      refine lv_iload_n hx hb dX12_seeks_70 rfl (lv_at hl 1 rfl) ?_
      refine lv_aload_n hx hb dX12_seeks_71 rfl (lv_at hl 0 rfl) ?_
      have hR30 : Ok 194 (R x0 20) 10006 := hSh x0 12 20 10006 hx0.1 rfl
      refine x_getR C S KX12 hx0 20 (by decide) rfl rfl fl_RX12_113 hR30 dX12_seeks_72 ?_
      refine lv_iload_n hx hb dX12_seeks_75 rfl (lv_at hl 1 rfl) ?_
      obtain ⟨hi31, h⟩ := ck_el h
      refine x_iald (len := 6) C S (by decide) hR30 hi31 dX12_seeks_76 ?_
      obtain ⟨hi32, h⟩ := ck_el h
      obtain ⟨σ33, hs33, h⟩ := sq_el h
      refine x_iast (len := 6) C S (by decide) hR29 hi32 dX12_seeks_77 hs33 (fun H locs S => ?_)
      refine lv_iinc (v := x3 + 1) (lv' := [(3, .int (x3 + 1)), (0, .ref (gb g + x0))]) hx hb dX12_seeks_78 hl (k := 1) rfl rfl (by decide) rfl (fun ls hl => ?_)
      refine lv_goto (tgt := 60) hx hb dX12_seeks_81 (by decide) ?_
      exact ih σ33 x0 (x3 + 1) h hx0 H locs ls S (lv_sub hl [1, 0] rfl)
set_option maxHeartbeats 4000000 in
set_option maxRecDepth 100000 in
theorem w_X12_seeks_53 {l : Launch} {g : GL} {p : Program} {e : Jvm.Env} {s : State} {m : MethodId} {args : Array Value} {below : List Frame} {meth : Method} {c : Code} {d : Nat} {R : Nat → Nat → Nat} {L : Nat → Nat → Int64} {r : (Unit × SI)} {N : Nat} {kr : SI → Nat → Int32 → Option (Unit × SI)} (C : Cx l g p s m meth c cX12_seeks 4 RX12) (hr : meth.sig.returnType = none) (hSh : ShR R) (hkr : ∀ (σ : SI) (x0 : Nat) (x1 : Int32) (r : (Unit × SI)), kr σ x0 x1 = some r → Ok 194 x0 12 → Ct l g (3 + d) yX12_seeks cX12_seeks 4 none 194 194 0 0 [.ref (gb g + x0), .int x1] (mkS σ R L) (PV R L r)) : ∀ (σ : SI) (x0 : Nat) (x2 : Int32), f_X12_seeks_53 N R kr σ x0 x2 = some r → Ok 194 x0 12 → ∀ (H : Heap) (locs : List Loc) (ls : Array Slot), S2 g s σ R L H locs → lv_has ls 4 [(0, .ref (gb g + x0)), (2, .int x2)] → W p l e (rmd (3 + d + 1) 0 0) s m args below meth c H locs 0 0 (MQ below (Qg g 194 (PV R L r)) args s 0 0 (gA g)) (F0 m 53 ls []) := by
  have hx := C.1
  have hb := C.2.1
  intro σ x0 x2 h hx0 H locs ls S hl
  rw [f_X12_seeks_53] at h
  refine lv_aload_n hx hb dX12_seeks_53 rfl (lv_at hl 0 rfl) ?_
  refine lv_iload_n hx hb dX12_seeks_54 rfl (lv_at hl 1 rfl) ?_
  obtain ⟨σ27, hs27, h⟩ := sq_el h
  refine x_putI C S KX12 hx0 24 (by decide) rfl rfl rfl ⟨rfl, rfl⟩ fl_RX12_351 dX12_seeks_55 hs27 (fun H locs S => ?_)
  refine lv_iconst (v := (0 : Int32)) hx hb dX12_seeks_58 (by decide) ?_
  refine lv_istore_n (lv' := [(3, .int (0 : Int32)), (0, .ref (gb g + x0)), (2, .int x2)]) hx hb dX12_seeks_59 rfl hl (by decide) rfl (fun ls hl => ?_)
  exact w_X12_seeks_60 C hr hSh hkr N σ27 x0 (0 : Int32) h hx0 H locs ls S (lv_sub hl [1, 0] rfl)
set_option maxHeartbeats 4000000 in
set_option maxRecDepth 100000 in
theorem w_X12_seeks_12 {l : Launch} {g : GL} {p : Program} {e : Jvm.Env} {s : State} {m : MethodId} {args : Array Value} {below : List Frame} {meth : Method} {c : Code} {d : Nat} {R : Nat → Nat → Nat} {L : Nat → Nat → Int64} {r : (Unit × SI)} {N : Nat} {kr : SI → Nat → Int32 → Option (Unit × SI)} (C : Cx l g p s m meth c cX12_seeks 4 RX12) (hr : meth.sig.returnType = none) (hSh : ShR R) (hkr : ∀ (σ : SI) (x0 : Nat) (x1 : Int32) (r : (Unit × SI)), kr σ x0 x1 = some r → Ok 194 x0 12 → Ct l g (3 + d) yX12_seeks cX12_seeks 4 none 194 194 0 0 [.ref (gb g + x0), .int x1] (mkS σ R L) (PV R L r)) : ∀ (n : Nat) (σ : SI) (x0 : Nat) (x2 : Int32) (x3 : Int32), f_X12_seeks_12 N R kr n σ x0 x2 x3 = some r → Ok 194 x0 12 → ∀ (H : Heap) (locs : List Loc) (ls : Array Slot), S2 g s σ R L H locs → lv_has ls 4 [(0, .ref (gb g + x0)), (2, .int x2), (3, .int x3)] → W p l e (rmd (3 + d + 1) 0 0) s m args below meth c H locs 0 0 (MQ below (Qg g 194 (PV R L r)) args s 0 0 (gA g)) (F0 m 12 ls []) := by
  have hx := C.1
  have hb := C.2.1
  intro n
  induction n with
  | zero =>
    intro σ x0 x2 x3 h
    cases (show (none : Option (Unit × SI)) = some r from h)
  | succ n ih =>
    intro σ x0 x2 x3 h hx0 H locs ls S hl
    rw [f_X12_seeks_12] at h
    refine lv_iload_n hx hb dX12_seeks_12 rfl (lv_at hl 2 rfl) ?_
    refine lv_aload_n hx hb dX12_seeks_13 rfl (lv_at hl 0 rfl) ?_
    have hR23 : Ok 194 (R x0 11) 10417 := hSh x0 12 11 10417 hx0.1 rfl
    refine x_getR C S KX12 hx0 11 (by decide) rfl rfl fl_RX12_88 hR23 dX12_seeks_14 ?_
    refine lv_iconst (v := (1 : Int32)) hx hb dX12_seeks_17 (by decide) ?_
    obtain ⟨hi24, h⟩ := ck_el h
    refine x_iald (len := 417) C S (by decide) hR23 hi24 dX12_seeks_18 ?_
    refine lv_icmp_ge (tgt := 36) hx hb dX12_seeks_19 (by decide) (fun c25 => ?_) (fun c25 => ?_)
    · have h := it_p c25 h
      refine lv_aload_n hx hb dX12_seeks_36 rfl (lv_at hl 0 rfl) ?_
      refine x_getI C S KX12 hx0 24 (by decide) rfl rfl fl_RX12_351 dX12_seeks_37 ?_
      refine lv_iconst (v := (-1 : Int32)) hx hb dX12_seeks_40 (by decide) ?_
      refine lv_icmp_eq (tgt := 53) hx hb dX12_seeks_41 (by decide) (fun c26 => ?_) (fun c26 => ?_)
      · have h := it_p c26 h
        exact w_X12_seeks_53 C hr hSh hkr σ x0 x2 h hx0 H locs ls S (lv_sub hl [0, 1] rfl)
      · have h := it_n c26 h
        refine lv_iload_n hx hb dX12_seeks_44 rfl (lv_at hl 1 rfl) ?_
        refine lv_aload_n hx hb dX12_seeks_45 rfl (lv_at hl 0 rfl) ?_
        refine x_getI C S KX12 hx0 24 (by decide) rfl rfl fl_RX12_351 dX12_seeks_46 ?_
        refine lv_icmp_lt (tgt := 53) hx hb dX12_seeks_49 (by decide) (fun c34 => ?_) (fun c34 => ?_)
        · have h := it_p c34 h
          exact w_X12_seeks_53 C hr hSh hkr σ x0 x2 h hx0 H locs ls S (lv_sub hl [0, 1] rfl)
        · have h := it_n c34 h
          exact x_vret C S hr h dX12_seeks_52
    · have h := it_n c25 h
      refine lv_iload_n hx hb dX12_seeks_22 rfl (lv_at hl 1 rfl) ?_
      refine lv_aload_n hx hb dX12_seeks_23 rfl (lv_at hl 0 rfl) ?_
      refine lv_iload_n hx hb dX12_seeks_24 rfl (lv_at hl 2 rfl) ?_
      obtain ⟨a35, σ35, hc35, h⟩ := bd_el h
      refine x_callVI C S KX12 hx0 (ok_X12_triedClosed (L := L) hc35 hSh hx0) ⟨cd_X12_triedClosed, ni_RX12, ml_RX12_348, in_X12_triedClosed, sl_X12_triedClosed⟩ ⟨by decide, by decide⟩ rfl (rm_ok (by omega) (by decide)) hl.1 rfl (Nat.le_of_ble_eq_true rfl) ⟨Nat.le_of_ble_eq_true rfl, Nat.le_of_ble_eq_true rfl⟩ dX12_seeks_25 (fun H locs S => ?_)
      refine lv_iadd hx hb dX12_seeks_28 ?_
      refine lv_istore_n (lv' := [(2, .int (x2 + a35)), (0, .ref (gb g + x0)), (3, .int x3)]) hx hb dX12_seeks_29 rfl hl (by decide) rfl (fun ls hl => ?_)
      refine lv_iinc (v := x3 + 1) (lv' := [(3, .int (x3 + 1)), (2, .int (x2 + a35)), (0, .ref (gb g + x0))]) hx hb dX12_seeks_30 hl (k := 2) rfl rfl (by decide) rfl (fun ls hl => ?_)
      refine lv_goto (tgt := 12) hx hb dX12_seeks_33 (by decide) ?_
      exact ih σ35 x0 (x2 + a35) (x3 + 1) h hx0 H locs ls S (lv_sub hl [2, 1, 0] rfl)
set_option maxHeartbeats 4000000 in
set_option maxRecDepth 100000 in
theorem ok_X12_seeks {l : Launch} {g : GL} {R : Nat → Nat → Nat} {L : Nat → Nat → Int64} {N : Nat} (d : Nat) : ∀ {σ : SI} {x0 : Nat} {x1 : Int32} {r : (Unit × SI)} (h : f_X12_seeks N R d σ x0 x1 = some r) (hSh : ShR R) (hx0 : Ok 194 x0 12), Ct l g (3 + d) yX12_seeks cX12_seeks 4 none 194 194 0 0 [.ref (gb g + x0), .int x1] (mkS σ R L) (PV R L r) := by
  induction d with
  | zero =>
    intro σ x0 x1 r h
    cases (show (none : Option (Unit × SI)) = some r from h)
  | succ d ihd =>
    intro σ x0 x1 r h hSh hx0
    have hkr : ∀ (σ : SI) (x0 : Nat) (x1 : Int32) (r : (Unit × SI)), f_X12_seeks N R d σ x0 x1 = some r → Ok 194 x0 12 → Ct l g (3 + d) yX12_seeks cX12_seeks 4 none 194 194 0 0 [.ref (gb g + x0), .int x1] (mkS σ R L) (PV R L r) := fun σ x0 x1 r h hx0 => ihd h hSh hx0
    refine Met.ofW (cc := cX12_seeks) (maxL := 4) (ret := none) (by decide) rfl ?_
    intro p e s m args below meth c s₁ B hml hv
    obtain ⟨rfl, hE, hLo, hWd⟩ := hv
    have hr : meth.sig.returnType = none := B.returns
    have C : Cx l g p s m meth c cX12_seeks 4 RX12 := ⟨B.exec, B.bytes, hml, findClass_of_methodNamed B.named, hE, hLo, B.notSynchronized⟩
    have S : S2 g s σ R L s.heap [] := ⟨hWd, va_S.rf⟩
    have hx := C.1
    have hb := C.2.1
    have hl := lv_entry ([.ref (gb g + x0), .int x1]) (n := 4) (Nat.le_of_ble_eq_true rfl)
    rw [lg_entry_eq]
    generalize (lg_sl ([.ref (gb g + x0), .int x1]) ++ List.replicate (4 - (lg_sl ([.ref (gb g + x0), .int x1])).length) Slot.unset).toArray = ls at hl ⊢
    have hl : lv_has ls 4 [(0, .ref (gb g + x0)), (1, .int x1)] := hl
    generalize hH : s.heap = H at S ⊢
    generalize hlc : ([] : List Loc) = locs at S ⊢
    rw [f_X12_seeks] at h
    refine lv_iload_n hx hb dX12_seeks_0 rfl (lv_at hl 1 rfl) ?_
    refine lv_aload_n hx hb dX12_seeks_1 rfl (lv_at hl 0 rfl) ?_
    obtain ⟨a1, σ1, hc1, h⟩ := bd_el h
    refine x_callVI C S KX12 hx0 (ok_X12_blasts (L := L) hc1 hSh hx0) ⟨cd_X12_blasts, ni_RX12, ml_RX12_142, in_X12_blasts, sl_X12_blasts⟩ ⟨by decide, by decide⟩ rfl (rm_ok (by omega) (by decide)) hl.1 rfl (Nat.le_of_ble_eq_true rfl) ⟨Nat.le_of_ble_eq_true rfl, Nat.le_of_ble_eq_true rfl⟩ dX12_seeks_2 (fun H locs S => ?_)
    refine lv_icmp_ne (tgt := 85) hx hb dX12_seeks_5 (by decide) (fun c2 => ?_) (fun c2 => ?_)
    · have h := it_n c2 h
      refine lv_aload_n hx hb dX12_seeks_85 rfl (lv_at hl 0 rfl) ?_
      refine lv_iload_n hx hb dX12_seeks_86 rfl (lv_at hl 1 rfl) ?_
      obtain ⟨a3, σ3, hc3, h⟩ := bd_el h
      refine x_callVI C S KX12 hx0 (ok_X12_time (L := L) hc3 hSh hx0) ⟨cd_X12_time, ni_RX12, ml_RX12_281, in_X12_time, sl_X12_time⟩ ⟨by decide, by decide⟩ rfl (rm_ok (by omega) (by decide)) hl.1 rfl (Nat.le_of_ble_eq_true rfl) ⟨Nat.le_of_ble_eq_true rfl, Nat.le_of_ble_eq_true rfl⟩ dX12_seeks_87 (fun H locs S => ?_)
      refine lv_iconst (v := (-1 : Int32)) hx hb dX12_seeks_90 (by decide) ?_
      refine lv_icmp_eq (tgt := 113) hx hb dX12_seeks_91 (by decide) (fun c4 => ?_) (fun c4 => ?_)
      · have h := it_p c4 h
        refine lv_iconst (v := (0 : Int32)) hx hb dX12_seeks_113 (by decide) ?_
        refine lv_istore_n (lv' := [(2, .int (0 : Int32)), (0, .ref (gb g + x0)), (1, .int x1)]) hx hb dX12_seeks_114 rfl hl (by decide) rfl (fun ls hl => ?_)
        exact w_X12_seeks_115 C hr hSh hkr N σ3 x0 x1 (0 : Int32) h hx0 H locs ls S (lv_sub hl [1, 2, 0] rfl)
      · have h := it_n c4 h
        refine lv_aload_n hx hb dX12_seeks_94 rfl (lv_at hl 0 rfl) ?_
        have hR18 : Ok 194 (R x0 20) 10006 := hSh x0 12 20 10006 hx0.1 rfl
        refine x_getR C S KX12 hx0 20 (by decide) rfl rfl fl_RX12_113 hR18 dX12_seeks_95 ?_
        refine lv_iload_n hx hb dX12_seeks_98 rfl (lv_at hl 1 rfl) ?_
        refine lv_aload_n hx hb dX12_seeks_99 rfl (lv_at hl 0 rfl) ?_
        refine lv_iload_n hx hb dX12_seeks_100 rfl (lv_at hl 1 rfl) ?_
        obtain ⟨a19, σ19, hc19, h⟩ := bd_el h
        refine x_callVI C S KX12 hx0 (ok_X12_time (L := L) hc19 hSh hx0) ⟨cd_X12_time, ni_RX12, ml_RX12_281, in_X12_time, sl_X12_time⟩ ⟨by decide, by decide⟩ rfl (rm_ok (by omega) (by decide)) hl.1 rfl (Nat.le_of_ble_eq_true rfl) ⟨Nat.le_of_ble_eq_true rfl, Nat.le_of_ble_eq_true rfl⟩ dX12_seeks_101 (fun H locs S => ?_)
        obtain ⟨hi20, h⟩ := ck_el h
        obtain ⟨σ21, hs21, h⟩ := sq_el h
        refine x_iast (len := 6) C S (by decide) hR18 hi20 dX12_seeks_104 hs21 (fun H locs S => ?_)
        refine lv_aload_n hx hb dX12_seeks_105 rfl (lv_at hl 0 rfl) ?_
        refine lv_iload_n hx hb dX12_seeks_106 rfl (lv_at hl 1 rfl) ?_
        refine lv_iconst (v := (1 : Int32)) hx hb dX12_seeks_107 (by decide) ?_
        refine lv_iadd hx hb dX12_seeks_108 ?_
        obtain ⟨a22, σ22, hc22, h⟩ := bd_el h
        refine x_callVV C S KX12 hx0 (hkr σ21 x0 (x1 + (1 : Int32)) (a22, σ22) hc22 hx0) ⟨cd_X12_seeks, ni_RX12, ml_RX12_354, in_X12_seeks, sl_X12_seeks⟩ ⟨by decide, by decide⟩ rfl (rm_ok (by omega) (by decide)) hl.1 rfl (Nat.le_of_ble_eq_true rfl) ⟨Nat.le_of_ble_eq_true rfl, Nat.le_of_ble_eq_true rfl⟩ dX12_seeks_109 (fun H locs S => ?_)
        exact x_vret C S hr h dX12_seeks_112
    · have h := it_p c2 h
      refine lv_iconst (v := (0 : Int32)) hx hb dX12_seeks_8 (by decide) ?_
      refine lv_istore_n (lv' := [(2, .int (0 : Int32)), (0, .ref (gb g + x0)), (1, .int x1)]) hx hb dX12_seeks_9 rfl hl (by decide) rfl (fun ls hl => ?_)
      refine lv_iconst (v := (0 : Int32)) hx hb dX12_seeks_10 (by decide) ?_
      refine lv_istore_n (lv' := [(3, .int (0 : Int32)), (2, .int (0 : Int32)), (0, .ref (gb g + x0)), (1, .int x1)]) hx hb dX12_seeks_11 rfl hl (by decide) rfl (fun ls hl => ?_)
      exact w_X12_seeks_12 C hr hSh hkr N σ1 x0 (0 : Int32) (0 : Int32) h hx0 H locs ls S (lv_sub hl [2, 1, 0] rfl)
theorem dX12_laysPlan_0 : decode cX12_laysPlan 0 = .ok (.aload_n 0, 1) := by decide +kernel
theorem dX12_laysPlan_1 : decode cX12_laysPlan 1 = .ok (.iconst (-1), 1) := by decide +kernel
theorem dX12_laysPlan_2 : decode cX12_laysPlan 2 = .ok (.putfield 351, 3) := by decide +kernel
theorem dX12_laysPlan_5 : decode cX12_laysPlan 5 = .ok (.iconst 0, 1) := by decide +kernel
theorem dX12_laysPlan_6 : decode cX12_laysPlan 6 = .ok (.istore_n 1, 1) := by decide +kernel
theorem dX12_laysPlan_7 : decode cX12_laysPlan 7 = .ok (.iload_n 1, 1) := by decide +kernel
theorem dX12_laysPlan_8 : decode cX12_laysPlan 8 = .ok (.aload_n 0, 1) := by decide +kernel
theorem dX12_laysPlan_9 : decode cX12_laysPlan 9 = .ok (.invokevirtual 142, 3) := by decide +kernel
theorem dX12_laysPlan_12 : decode cX12_laysPlan 12 = .ok (.if_icmp .ge 74, 3) := by decide +kernel
theorem dX12_laysPlan_15 : decode cX12_laysPlan 15 = .ok (.aload_n 0, 1) := by decide +kernel
theorem dX12_laysPlan_16 : decode cX12_laysPlan 16 = .ok (.getfield 119, 3) := by decide +kernel
theorem dX12_laysPlan_19 : decode cX12_laysPlan 19 = .ok (.iload_n 1, 1) := by decide +kernel
theorem dX12_laysPlan_20 : decode cX12_laysPlan 20 = .ok (.aload_n 0, 1) := by decide +kernel
theorem dX12_laysPlan_21 : decode cX12_laysPlan 21 = .ok (.iload_n 1, 1) := by decide +kernel
theorem dX12_laysPlan_22 : decode cX12_laysPlan 22 = .ok (.invokevirtual 260, 3) := by decide +kernel
theorem dX12_laysPlan_25 : decode cX12_laysPlan 25 = .ok (.iastore, 1) := by decide +kernel
theorem dX12_laysPlan_26 : decode cX12_laysPlan 26 = .ok (.iconst 0, 1) := by decide +kernel
theorem dX12_laysPlan_27 : decode cX12_laysPlan 27 = .ok (.istore_n 2, 1) := by decide +kernel
theorem dX12_laysPlan_28 : decode cX12_laysPlan 28 = .ok (.iload_n 2, 1) := by decide +kernel
theorem dX12_laysPlan_29 : decode cX12_laysPlan 29 = .ok (.aload_n 0, 1) := by decide +kernel
theorem dX12_laysPlan_30 : decode cX12_laysPlan 30 = .ok (.invokevirtual 195, 3) := by decide +kernel
theorem dX12_laysPlan_33 : decode cX12_laysPlan 33 = .ok (.if_icmp .ge 47, 3) := by decide +kernel
theorem dX12_laysPlan_36 : decode cX12_laysPlan 36 = .ok (.aload_n 0, 1) := by decide +kernel
theorem dX12_laysPlan_37 : decode cX12_laysPlan 37 = .ok (.iload_n 1, 1) := by decide +kernel
theorem dX12_laysPlan_38 : decode cX12_laysPlan 38 = .ok (.invokevirtual 281, 3) := by decide +kernel
theorem dX12_laysPlan_41 : decode cX12_laysPlan 41 = .ok (.iconst (-1), 1) := by decide +kernel
theorem dX12_laysPlan_42 : decode cX12_laysPlan 42 = .ok (.if_icmp .ne 38, 3) := by decide +kernel
theorem dX12_laysPlan_45 : decode cX12_laysPlan 45 = .ok (.aload_n 0, 1) := by decide +kernel
theorem dX12_laysPlan_46 : decode cX12_laysPlan 46 = .ok (.getfield 122, 3) := by decide +kernel
theorem dX12_laysPlan_49 : decode cX12_laysPlan 49 = .ok (.bipush 12, 2) := by decide +kernel
theorem dX12_laysPlan_51 : decode cX12_laysPlan 51 = .ok (.iload_n 1, 1) := by decide +kernel
theorem dX12_laysPlan_52 : decode cX12_laysPlan 52 = .ok (.imul, 1) := by decide +kernel
theorem dX12_laysPlan_53 : decode cX12_laysPlan 53 = .ok (.iload_n 2, 1) := by decide +kernel
theorem dX12_laysPlan_54 : decode cX12_laysPlan 54 = .ok (.iadd, 1) := by decide +kernel
theorem dX12_laysPlan_55 : decode cX12_laysPlan 55 = .ok (.aload_n 0, 1) := by decide +kernel
theorem dX12_laysPlan_56 : decode cX12_laysPlan 56 = .ok (.iload_n 1, 1) := by decide +kernel
theorem dX12_laysPlan_57 : decode cX12_laysPlan 57 = .ok (.aload_n 0, 1) := by decide +kernel
theorem dX12_laysPlan_58 : decode cX12_laysPlan 58 = .ok (.iload_n 2, 1) := by decide +kernel
theorem dX12_laysPlan_59 : decode cX12_laysPlan 59 = .ok (.invokevirtual 302, 3) := by decide +kernel
theorem dX12_laysPlan_62 : decode cX12_laysPlan 62 = .ok (.invokevirtual 299, 3) := by decide +kernel
theorem dX12_laysPlan_65 : decode cX12_laysPlan 65 = .ok (.ifCond .ne 7, 3) := by decide +kernel
theorem dX12_laysPlan_68 : decode cX12_laysPlan 68 = .ok (.iconst 1, 1) := by decide +kernel
theorem dX12_laysPlan_69 : decode cX12_laysPlan 69 = .ok (.goto 4, 3) := by decide +kernel
theorem dX12_laysPlan_72 : decode cX12_laysPlan 72 = .ok (.iconst 0, 1) := by decide +kernel
theorem dX12_laysPlan_73 : decode cX12_laysPlan 73 = .ok (.bastore, 1) := by decide +kernel
theorem dX12_laysPlan_74 : decode cX12_laysPlan 74 = .ok (.iinc 2 1, 3) := by decide +kernel
theorem dX12_laysPlan_77 : decode cX12_laysPlan 77 = .ok (.goto (-49), 3) := by decide +kernel
theorem dX12_laysPlan_80 : decode cX12_laysPlan 80 = .ok (.iinc 1 1, 3) := by decide +kernel
theorem dX12_laysPlan_83 : decode cX12_laysPlan 83 = .ok (.goto (-76), 3) := by decide +kernel
theorem dX12_laysPlan_86 : decode cX12_laysPlan 86 = .ok (.aload_n 0, 1) := by decide +kernel
theorem dX12_laysPlan_87 : decode cX12_laysPlan 87 = .ok (.iconst 0, 1) := by decide +kernel
theorem dX12_laysPlan_88 : decode cX12_laysPlan 88 = .ok (.invokevirtual 354, 3) := by decide +kernel
theorem dX12_laysPlan_91 : decode cX12_laysPlan 91 = .ok (.return_, 1) := by decide +kernel
def f_X12_laysPlan_80 (N : Nat) (R : Nat → Nat → Nat) (k7 : SI → Nat → Int32 → Option (Unit × SI)) (σ : SI) (x0 : Nat) (x1 : Int32) : Option (Unit × SI) := k7 σ x0 (x1 + 1)
def f_X12_laysPlan_28 (N : Nat) (R : Nat → Nat → Nat) (k7 : SI → Nat → Int32 → Option (Unit × SI)) : Nat → SI → Nat → Int32 → Int32 → Option (Unit × SI)
  | 0, _, _, _, _ => none
  | n + 1, σ, x0, x1, x2 => bd (f_X12_starts N R σ x0) (fun a9 σ9 => if a9 ≤ x2 then (f_X12_laysPlan_80 N R k7 σ9 x0 x1) else (bd (f_X12_time N R σ9 x0 x1) (fun a11 σ11 => if a11 = (-1 : Int32) then (bd (f_X12_startAt N R σ11 x0 x2) (fun a14 σ14 => bd (f_X12_why N R σ14 x0 x1 a14) (fun a15 σ15 => if a15 = 0 then (ck (((12 : Int32) * x1) + x2) 72 (sq (up σ15 (R x0 23) (((12 : Int32) * x1) + x2).toNatClampNeg (vp_nar .boolean (1 : Int32))) (fun σ20 => f_X12_laysPlan_28 N R k7 n σ20 x0 x1 (x2 + 1)))) else (ck (((12 : Int32) * x1) + x2) 72 (sq (up σ15 (R x0 23) (((12 : Int32) * x1) + x2).toNatClampNeg (vp_nar .boolean (0 : Int32))) (fun σ18 => f_X12_laysPlan_28 N R k7 n σ18 x0 x1 (x2 + 1))))))) else (f_X12_laysPlan_80 N R k7 σ11 x0 x1))))
def f_X12_laysPlan_7 (N : Nat) (R : Nat → Nat → Nat) : Nat → SI → Nat → Int32 → Option (Unit × SI)
  | 0, _, _, _ => none
  | n + 1, σ, x0, x1 => bd (f_X12_blasts N R σ x0) (fun a2 σ2 => if a2 ≤ x1 then (bd (f_X12_seeks N R 12 σ2 x0 (0 : Int32)) (fun _ σ4 => some ((), σ4))) else (bd (f_X12_shutBy N R σ2 x0 x1) (fun a6 σ6 => ck x1 6 (sq (up σ6 (R x0 22) x1.toNatClampNeg a6) (fun σ8 => f_X12_laysPlan_28 N R (fun σ x0 x1 => f_X12_laysPlan_7 N R n σ x0 x1) N σ8 x0 x1 (0 : Int32))))))
def f_X12_laysPlan (N : Nat) (R : Nat → Nat → Nat) (σ : SI) (x0 : Nat) : Option (Unit × SI) := sq (up σ x0 24 (-1 : Int32)) (fun σ1 => f_X12_laysPlan_7 N R N σ1 x0 (0 : Int32))
set_option maxHeartbeats 4000000 in
set_option maxRecDepth 100000 in
theorem w_X12_laysPlan_80 {l : Launch} {g : GL} {p : Program} {e : Jvm.Env} {s : State} {m : MethodId} {args : Array Value} {below : List Frame} {meth : Method} {c : Code} {R : Nat → Nat → Nat} {L : Nat → Nat → Int64} {r : (Unit × SI)} {N : Nat} {k7 : SI → Nat → Int32 → Option (Unit × SI)} (C : Cx l g p s m meth c cX12_laysPlan 3 RX12) (hr : meth.sig.returnType = none) (hSh : ShR R) (hk7 : ∀ (σ : SI) (x0 : Nat) (x1 : Int32), k7 σ x0 x1 = some r → Ok 194 x0 12 → ∀ (H : Heap) (locs : List Loc) (ls : Array Slot), S2 g s σ R L H locs → lv_has ls 3 [(0, .ref (gb g + x0)), (1, .int x1)] → W p l e (rmd 16 0 0) s m args below meth c H locs 0 0 (MQ below (Qg g 194 (PV R L r)) args s 0 0 (gA g)) (F0 m 7 ls [])) : ∀ (σ : SI) (x0 : Nat) (x1 : Int32), f_X12_laysPlan_80 N R k7 σ x0 x1 = some r → Ok 194 x0 12 → ∀ (H : Heap) (locs : List Loc) (ls : Array Slot), S2 g s σ R L H locs → lv_has ls 3 [(0, .ref (gb g + x0)), (1, .int x1)] → W p l e (rmd 16 0 0) s m args below meth c H locs 0 0 (MQ below (Qg g 194 (PV R L r)) args s 0 0 (gA g)) (F0 m 80 ls []) := by
  have hx := C.1
  have hb := C.2.1
  intro σ x0 x1 h hx0 H locs ls S hl
  rw [f_X12_laysPlan_80] at h
  refine lv_iinc (v := x1 + 1) (lv' := [(1, .int (x1 + 1)), (0, .ref (gb g + x0))]) hx hb dX12_laysPlan_80 hl (k := 1) rfl rfl (by decide) rfl (fun ls hl => ?_)
  refine lv_goto (tgt := 7) hx hb dX12_laysPlan_83 (by decide) ?_
  exact hk7 σ x0 (x1 + 1) h hx0 H locs ls S (lv_sub hl [1, 0] rfl)
set_option maxHeartbeats 4000000 in
set_option maxRecDepth 100000 in
theorem w_X12_laysPlan_28 {l : Launch} {g : GL} {p : Program} {e : Jvm.Env} {s : State} {m : MethodId} {args : Array Value} {below : List Frame} {meth : Method} {c : Code} {R : Nat → Nat → Nat} {L : Nat → Nat → Int64} {r : (Unit × SI)} {N : Nat} {k7 : SI → Nat → Int32 → Option (Unit × SI)} (C : Cx l g p s m meth c cX12_laysPlan 3 RX12) (hr : meth.sig.returnType = none) (hSh : ShR R) (hk7 : ∀ (σ : SI) (x0 : Nat) (x1 : Int32), k7 σ x0 x1 = some r → Ok 194 x0 12 → ∀ (H : Heap) (locs : List Loc) (ls : Array Slot), S2 g s σ R L H locs → lv_has ls 3 [(0, .ref (gb g + x0)), (1, .int x1)] → W p l e (rmd 16 0 0) s m args below meth c H locs 0 0 (MQ below (Qg g 194 (PV R L r)) args s 0 0 (gA g)) (F0 m 7 ls [])) : ∀ (n : Nat) (σ : SI) (x0 : Nat) (x1 : Int32) (x2 : Int32), f_X12_laysPlan_28 N R k7 n σ x0 x1 x2 = some r → Ok 194 x0 12 → ∀ (H : Heap) (locs : List Loc) (ls : Array Slot), S2 g s σ R L H locs → lv_has ls 3 [(0, .ref (gb g + x0)), (1, .int x1), (2, .int x2)] → W p l e (rmd 16 0 0) s m args below meth c H locs 0 0 (MQ below (Qg g 194 (PV R L r)) args s 0 0 (gA g)) (F0 m 28 ls []) := by
  have hx := C.1
  have hb := C.2.1
  intro n
  induction n with
  | zero =>
    intro σ x0 x1 x2 h
    cases (show (none : Option (Unit × SI)) = some r from h)
  | succ n ih =>
    intro σ x0 x1 x2 h hx0 H locs ls S hl
    rw [f_X12_laysPlan_28] at h
    refine lv_iload_n hx hb dX12_laysPlan_28 rfl (lv_at hl 2 rfl) ?_
    refine lv_aload_n hx hb dX12_laysPlan_29 rfl (lv_at hl 0 rfl) ?_
    obtain ⟨a9, σ9, hc9, h⟩ := bd_el h
    refine x_callVI C S KX12 hx0 (ok_X12_starts (L := L) hc9 hSh hx0) ⟨cd_X12_starts, ni_RX12, ml_RX12_195, in_X12_starts, sl_X12_starts⟩ ⟨by decide, by decide⟩ rfl (rm_ok (by decide) (by decide)) hl.1 rfl (Nat.le_of_ble_eq_true rfl) ⟨by decide, by decide⟩ dX12_laysPlan_30 (fun H locs S => ?_)
    refine lv_icmp_ge (tgt := 80) hx hb dX12_laysPlan_33 (by decide) (fun c10 => ?_) (fun c10 => ?_)
    · have h := it_p c10 h
      exact w_X12_laysPlan_80 C hr hSh hk7 σ9 x0 x1 h hx0 H locs ls S (lv_sub hl [0, 1] rfl)
    · have h := it_n c10 h
      refine lv_aload_n hx hb dX12_laysPlan_36 rfl (lv_at hl 0 rfl) ?_
      refine lv_iload_n hx hb dX12_laysPlan_37 rfl (lv_at hl 1 rfl) ?_
      obtain ⟨a11, σ11, hc11, h⟩ := bd_el h
      refine x_callVI C S KX12 hx0 (ok_X12_time (L := L) hc11 hSh hx0) ⟨cd_X12_time, ni_RX12, ml_RX12_281, in_X12_time, sl_X12_time⟩ ⟨by decide, by decide⟩ rfl (rm_ok (by decide) (by decide)) hl.1 rfl (Nat.le_of_ble_eq_true rfl) ⟨by decide, by decide⟩ dX12_laysPlan_38 (fun H locs S => ?_)
      refine lv_iconst (v := (-1 : Int32)) hx hb dX12_laysPlan_41 (by decide) ?_
      refine lv_icmp_ne (tgt := 80) hx hb dX12_laysPlan_42 (by decide) (fun c12 => ?_) (fun c12 => ?_)
      · have h := it_n c12 h
        exact w_X12_laysPlan_80 C hr hSh hk7 σ11 x0 x1 h hx0 H locs ls S (lv_sub hl [0, 1] rfl)
      · have h := it_p c12 h
        refine lv_aload_n hx hb dX12_laysPlan_45 rfl (lv_at hl 0 rfl) ?_
        have hR13 : Ok 194 (R x0 23) 30072 := hSh x0 12 23 30072 hx0.1 rfl
        refine x_getR C S KX12 hx0 23 (by decide) rfl rfl fl_RX12_122 hR13 dX12_laysPlan_46 ?_
        refine lv_bipush (v := (12 : Int32)) hx hb dX12_laysPlan_49 (by decide) ?_
        refine lv_iload_n hx hb dX12_laysPlan_51 rfl (lv_at hl 1 rfl) ?_
        refine lv_imul hx hb dX12_laysPlan_52 ?_
        refine lv_iload_n hx hb dX12_laysPlan_53 rfl (lv_at hl 2 rfl) ?_
        refine lv_iadd hx hb dX12_laysPlan_54 ?_
        refine lv_aload_n hx hb dX12_laysPlan_55 rfl (lv_at hl 0 rfl) ?_
        refine lv_iload_n hx hb dX12_laysPlan_56 rfl (lv_at hl 1 rfl) ?_
        refine lv_aload_n hx hb dX12_laysPlan_57 rfl (lv_at hl 0 rfl) ?_
        refine lv_iload_n hx hb dX12_laysPlan_58 rfl (lv_at hl 2 rfl) ?_
        obtain ⟨a14, σ14, hc14, h⟩ := bd_el h
        refine x_callVI C S KX12 hx0 (ok_X12_startAt (L := L) hc14 hSh hx0) ⟨cd_X12_startAt, ni_RX12, ml_RX12_302, in_X12_startAt, sl_X12_startAt⟩ ⟨by decide, by decide⟩ rfl (rm_ok (by decide) (by decide)) hl.1 rfl (Nat.le_of_ble_eq_true rfl) ⟨by decide, by decide⟩ dX12_laysPlan_59 (fun H locs S => ?_)
        obtain ⟨a15, σ15, hc15, h⟩ := bd_el h
        refine x_callVI C S KX12 hx0 (ok_X12_why (L := L) hc15 hSh hx0) ⟨cd_X12_why, ni_RX12, ml_RX12_299, in_X12_why, sl_X12_why⟩ ⟨by decide, by decide⟩ rfl (rm_ok (by decide) (by decide)) hl.1 rfl (Nat.le_of_ble_eq_true rfl) ⟨by decide, by decide⟩ dX12_laysPlan_62 (fun H locs S => ?_)
        refine lv_if_ne (tgt := 72) hx hb dX12_laysPlan_65 (by decide) (fun c16 => ?_) (fun c16 => ?_)
        · have h := it_n c16 h
          refine lv_iconst (v := (0 : Int32)) hx hb dX12_laysPlan_72 (by decide) ?_
          obtain ⟨hi17, h⟩ := ck_el h
          obtain ⟨σ18, hs18, h⟩ := sq_el h
          refine x_zast (len := 72) C S (by decide) hR13 hi17 dX12_laysPlan_73 hs18 (fun H locs S => ?_)
          refine lv_iinc (v := x2 + 1) (lv' := [(2, .int (x2 + 1)), (0, .ref (gb g + x0)), (1, .int x1)]) hx hb dX12_laysPlan_74 hl (k := 2) rfl rfl (by decide) rfl (fun ls hl => ?_)
          refine lv_goto (tgt := 28) hx hb dX12_laysPlan_77 (by decide) ?_
          exact ih σ18 x0 x1 (x2 + 1) h hx0 H locs ls S (lv_sub hl [1, 2, 0] rfl)
        · have h := it_p c16 h
          refine lv_iconst (v := (1 : Int32)) hx hb dX12_laysPlan_68 (by decide) ?_
          refine lv_goto (tgt := 73) hx hb dX12_laysPlan_69 (by decide) ?_
          obtain ⟨hi19, h⟩ := ck_el h
          obtain ⟨σ20, hs20, h⟩ := sq_el h
          refine x_zast (len := 72) C S (by decide) hR13 hi19 dX12_laysPlan_73 hs20 (fun H locs S => ?_)
          refine lv_iinc (v := x2 + 1) (lv' := [(2, .int (x2 + 1)), (0, .ref (gb g + x0)), (1, .int x1)]) hx hb dX12_laysPlan_74 hl (k := 2) rfl rfl (by decide) rfl (fun ls hl => ?_)
          refine lv_goto (tgt := 28) hx hb dX12_laysPlan_77 (by decide) ?_
          exact ih σ20 x0 x1 (x2 + 1) h hx0 H locs ls S (lv_sub hl [1, 2, 0] rfl)
set_option maxHeartbeats 4000000 in
set_option maxRecDepth 100000 in
theorem w_X12_laysPlan_7 {l : Launch} {g : GL} {p : Program} {e : Jvm.Env} {s : State} {m : MethodId} {args : Array Value} {below : List Frame} {meth : Method} {c : Code} {R : Nat → Nat → Nat} {L : Nat → Nat → Int64} {r : (Unit × SI)} {N : Nat} (C : Cx l g p s m meth c cX12_laysPlan 3 RX12) (hr : meth.sig.returnType = none) (hSh : ShR R) : ∀ (n : Nat) (σ : SI) (x0 : Nat) (x1 : Int32), f_X12_laysPlan_7 N R n σ x0 x1 = some r → Ok 194 x0 12 → ∀ (H : Heap) (locs : List Loc) (ls : Array Slot), S2 g s σ R L H locs → lv_has ls 3 [(0, .ref (gb g + x0)), (1, .int x1)] → W p l e (rmd 16 0 0) s m args below meth c H locs 0 0 (MQ below (Qg g 194 (PV R L r)) args s 0 0 (gA g)) (F0 m 7 ls []) := by
  have hx := C.1
  have hb := C.2.1
  intro n
  induction n with
  | zero =>
    intro σ x0 x1 h
    cases (show (none : Option (Unit × SI)) = some r from h)
  | succ n ih =>
    intro σ x0 x1 h hx0 H locs ls S hl
    rw [f_X12_laysPlan_7] at h
    refine lv_iload_n hx hb dX12_laysPlan_7 rfl (lv_at hl 1 rfl) ?_
    refine lv_aload_n hx hb dX12_laysPlan_8 rfl (lv_at hl 0 rfl) ?_
    obtain ⟨a2, σ2, hc2, h⟩ := bd_el h
    refine x_callVI C S KX12 hx0 (ok_X12_blasts (L := L) hc2 hSh hx0) ⟨cd_X12_blasts, ni_RX12, ml_RX12_142, in_X12_blasts, sl_X12_blasts⟩ ⟨by decide, by decide⟩ rfl (rm_ok (by decide) (by decide)) hl.1 rfl (Nat.le_of_ble_eq_true rfl) ⟨by decide, by decide⟩ dX12_laysPlan_9 (fun H locs S => ?_)
    refine lv_icmp_ge (tgt := 86) hx hb dX12_laysPlan_12 (by decide) (fun c3 => ?_) (fun c3 => ?_)
    · have h := it_p c3 h
      refine lv_aload_n hx hb dX12_laysPlan_86 rfl (lv_at hl 0 rfl) ?_
      refine lv_iconst (v := (0 : Int32)) hx hb dX12_laysPlan_87 (by decide) ?_
      obtain ⟨a4, σ4, hc4, h⟩ := bd_el h
      refine x_callVV C S KX12 hx0 (ok_X12_seeks (L := L) 12 hc4 hSh hx0) ⟨cd_X12_seeks, ni_RX12, ml_RX12_354, in_X12_seeks, sl_X12_seeks⟩ ⟨by decide, by decide⟩ rfl (rm_ok (by decide) (by decide)) hl.1 rfl (Nat.le_of_ble_eq_true rfl) ⟨by decide, by decide⟩ dX12_laysPlan_88 (fun H locs S => ?_)
      exact x_vret C S hr h dX12_laysPlan_91
    · have h := it_n c3 h
      refine lv_aload_n hx hb dX12_laysPlan_15 rfl (lv_at hl 0 rfl) ?_
      have hR5 : Ok 194 (R x0 22) 10006 := hSh x0 12 22 10006 hx0.1 rfl
      refine x_getR C S KX12 hx0 22 (by decide) rfl rfl fl_RX12_119 hR5 dX12_laysPlan_16 ?_
      refine lv_iload_n hx hb dX12_laysPlan_19 rfl (lv_at hl 1 rfl) ?_
      refine lv_aload_n hx hb dX12_laysPlan_20 rfl (lv_at hl 0 rfl) ?_
      refine lv_iload_n hx hb dX12_laysPlan_21 rfl (lv_at hl 1 rfl) ?_
      obtain ⟨a6, σ6, hc6, h⟩ := bd_el h
      refine x_callVI C S KX12 hx0 (ok_X12_shutBy (L := L) hc6 hSh hx0) ⟨cd_X12_shutBy, ni_RX12, ml_RX12_260, in_X12_shutBy, sl_X12_shutBy⟩ ⟨by decide, by decide⟩ rfl (rm_ok (by decide) (by decide)) hl.1 rfl (Nat.le_of_ble_eq_true rfl) ⟨by decide, by decide⟩ dX12_laysPlan_22 (fun H locs S => ?_)
      obtain ⟨hi7, h⟩ := ck_el h
      obtain ⟨σ8, hs8, h⟩ := sq_el h
      refine x_iast (len := 6) C S (by decide) hR5 hi7 dX12_laysPlan_25 hs8 (fun H locs S => ?_)
      refine lv_iconst (v := (0 : Int32)) hx hb dX12_laysPlan_26 (by decide) ?_
      refine lv_istore_n (lv' := [(2, .int (0 : Int32)), (0, .ref (gb g + x0)), (1, .int x1)]) hx hb dX12_laysPlan_27 rfl hl (by decide) rfl (fun ls hl => ?_)
      exact w_X12_laysPlan_28 C hr hSh ih N σ8 x0 x1 (0 : Int32) h hx0 H locs ls S (lv_sub hl [1, 2, 0] rfl)
set_option maxHeartbeats 4000000 in
set_option maxRecDepth 100000 in
theorem ok_X12_laysPlan {l : Launch} {g : GL} {R : Nat → Nat → Nat} {L : Nat → Nat → Int64} {N : Nat} {σ : SI} {x0 : Nat} {r : (Unit × SI)} (h : f_X12_laysPlan N R σ x0 = some r) (hSh : ShR R) (hx0 : Ok 194 x0 12) : Ct l g 16 yX12_laysPlan cX12_laysPlan 3 none 194 194 0 0 [.ref (gb g + x0)] (mkS σ R L) (PV R L r) := by
  refine Met.ofW (cc := cX12_laysPlan) (maxL := 3) (ret := none) (by decide) rfl ?_
  intro p e s m args below meth c s₁ B hml hv
  obtain ⟨rfl, hE, hLo, hWd⟩ := hv
  have hr : meth.sig.returnType = none := B.returns
  have C : Cx l g p s m meth c cX12_laysPlan 3 RX12 := ⟨B.exec, B.bytes, hml, findClass_of_methodNamed B.named, hE, hLo, B.notSynchronized⟩
  have S : S2 g s σ R L s.heap [] := ⟨hWd, va_S.rf⟩
  have hx := C.1
  have hb := C.2.1
  have hl := lv_entry ([.ref (gb g + x0)]) (n := 3) (Nat.le_of_ble_eq_true rfl)
  rw [lg_entry_eq]
  generalize (lg_sl ([.ref (gb g + x0)]) ++ List.replicate (3 - (lg_sl ([.ref (gb g + x0)])).length) Slot.unset).toArray = ls at hl ⊢
  have hl : lv_has ls 3 [(0, .ref (gb g + x0))] := hl
  generalize hH : s.heap = H at S ⊢
  generalize hlc : ([] : List Loc) = locs at S ⊢
  rw [f_X12_laysPlan] at h
  refine lv_aload_n hx hb dX12_laysPlan_0 rfl (lv_at hl 0 rfl) ?_
  refine lv_iconst (v := (-1 : Int32)) hx hb dX12_laysPlan_1 (by decide) ?_
  obtain ⟨σ1, hs1, h⟩ := sq_el h
  refine x_putI C S KX12 hx0 24 (by decide) rfl rfl rfl ⟨rfl, rfl⟩ fl_RX12_351 dX12_laysPlan_2 hs1 (fun H locs S => ?_)
  refine lv_iconst (v := (0 : Int32)) hx hb dX12_laysPlan_5 (by decide) ?_
  refine lv_istore_n (lv' := [(1, .int (0 : Int32)), (0, .ref (gb g + x0))]) hx hb dX12_laysPlan_6 rfl hl (by decide) rfl (fun ls hl => ?_)
  exact w_X12_laysPlan_7 C hr hSh N σ1 x0 (0 : Int32) h hx0 H locs ls S (lv_sub hl [1, 0] rfl)
theorem dX12_planLength_0 : decode cX12_planLength 0 = .ok (.aload_n 0, 1) := by decide +kernel
theorem dX12_planLength_1 : decode cX12_planLength 1 = .ok (.iconst 0, 1) := by decide +kernel
theorem dX12_planLength_2 : decode cX12_planLength 2 = .ok (.putfield 3, 3) := by decide +kernel
theorem dX12_planLength_5 : decode cX12_planLength 5 = .ok (.aload_n 0, 1) := by decide +kernel
theorem dX12_planLength_6 : decode cX12_planLength 6 = .ok (.iconst 1, 1) := by decide +kernel
theorem dX12_planLength_7 : decode cX12_planLength 7 = .ok (.invokevirtual 360, 3) := by decide +kernel
theorem dX12_planLength_10 : decode cX12_planLength 10 = .ok (.ifCond .eq 5, 3) := by decide +kernel
theorem dX12_planLength_13 : decode cX12_planLength 13 = .ok (.iconst 0, 1) := by decide +kernel
theorem dX12_planLength_14 : decode cX12_planLength 14 = .ok (.ireturn, 1) := by decide +kernel
theorem dX12_planLength_15 : decode cX12_planLength 15 = .ok (.aload_n 0, 1) := by decide +kernel
theorem dX12_planLength_16 : decode cX12_planLength 16 = .ok (.invokevirtual 363, 3) := by decide +kernel
theorem dX12_planLength_19 : decode cX12_planLength 19 = .ok (.aload_n 0, 1) := by decide +kernel
theorem dX12_planLength_20 : decode cX12_planLength 20 = .ok (.getfield 351, 3) := by decide +kernel
theorem dX12_planLength_23 : decode cX12_planLength 23 = .ok (.ireturn, 1) := by decide +kernel
def f_X12_planLength (N : Nat) (R : Nat → Nat → Nat) (σ : SI) (x0 : Nat) : Option (Int32 × SI) := sq (up σ x0 0 (0 : Int32)) (fun σ1 => bd (f_X12_cannotPlan N R σ1 x0 (1 : Int32)) (fun a2 σ2 => if a2 = 0 then (bd (f_X12_laysPlan N R σ2 x0) (fun _ σ4 => some (σ4 x0 24, σ4))) else (some ((0 : Int32), σ2))))
set_option maxHeartbeats 4000000 in
set_option maxRecDepth 100000 in
theorem ok_X12_planLength {l : Launch} {g : GL} {R : Nat → Nat → Nat} {L : Nat → Nat → Int64} {N : Nat} {σ : SI} {x0 : Nat} {r : (Int32 × SI)} (h : f_X12_planLength N R σ x0 = some r) (hSh : ShR R) (hx0 : Ok 194 x0 12) : Ct l g 17 yX12_planLength cX12_planLength 1 (some .int) 194 194 0 0 [.ref (gb g + x0)] (mkS σ R L) (PI R L r) := by
  refine Met.ofW (cc := cX12_planLength) (maxL := 1) (ret := (some .int)) (by decide) rfl ?_
  intro p e s m args below meth c s₁ B hml hv
  obtain ⟨rfl, hE, hLo, hWd⟩ := hv
  have hr : meth.sig.returnType = (some .int) := B.returns
  have C : Cx l g p s m meth c cX12_planLength 1 RX12 := ⟨B.exec, B.bytes, hml, findClass_of_methodNamed B.named, hE, hLo, B.notSynchronized⟩
  have S : S2 g s σ R L s.heap [] := ⟨hWd, va_S.rf⟩
  have hx := C.1
  have hb := C.2.1
  have hl := lv_entry ([.ref (gb g + x0)]) (n := 1) (Nat.le_of_ble_eq_true rfl)
  rw [lg_entry_eq]
  generalize (lg_sl ([.ref (gb g + x0)]) ++ List.replicate (1 - (lg_sl ([.ref (gb g + x0)])).length) Slot.unset).toArray = ls at hl ⊢
  have hl : lv_has ls 1 [(0, .ref (gb g + x0))] := hl
  generalize hH : s.heap = H at S ⊢
  generalize hlc : ([] : List Loc) = locs at S ⊢
  rw [f_X12_planLength] at h
  refine lv_aload_n hx hb dX12_planLength_0 rfl (lv_at hl 0 rfl) ?_
  refine lv_iconst (v := (0 : Int32)) hx hb dX12_planLength_1 (by decide) ?_
  obtain ⟨σ1, hs1, h⟩ := sq_el h
  refine x_putI C S KX12 hx0 0 (by decide) rfl rfl rfl ⟨rfl, rfl⟩ fl_RX12_3 dX12_planLength_2 hs1 (fun H locs S => ?_)
  refine lv_aload_n hx hb dX12_planLength_5 rfl (lv_at hl 0 rfl) ?_
  refine lv_iconst (v := (1 : Int32)) hx hb dX12_planLength_6 (by decide) ?_
  obtain ⟨a2, σ2, hc2, h⟩ := bd_el h
  refine x_callVI C S KX12 hx0 (ok_X12_cannotPlan (L := L) hc2 hSh hx0) ⟨cd_X12_cannotPlan, ni_RX12, ml_RX12_360, in_X12_cannotPlan, sl_X12_cannotPlan⟩ ⟨by decide, by decide⟩ rfl (rm_ok (by decide) (by decide)) hl.1 rfl (Nat.le_of_ble_eq_true rfl) ⟨by decide, by decide⟩ dX12_planLength_7 (fun H locs S => ?_)
  refine lv_if_eq (tgt := 15) hx hb dX12_planLength_10 (by decide) (fun c3 => ?_) (fun c3 => ?_)
  · have h := it_p c3 h
    refine lv_aload_n hx hb dX12_planLength_15 rfl (lv_at hl 0 rfl) ?_
    obtain ⟨a4, σ4, hc4, h⟩ := bd_el h
    refine x_callVV C S KX12 hx0 (ok_X12_laysPlan (L := L) hc4 hSh hx0) ⟨cd_X12_laysPlan, ni_RX12, ml_RX12_363, in_X12_laysPlan, sl_X12_laysPlan⟩ ⟨by decide, by decide⟩ rfl (rm_ok (by decide) (by decide)) hl.1 rfl (Nat.le_of_ble_eq_true rfl) ⟨by decide, by decide⟩ dX12_planLength_16 (fun H locs S => ?_)
    refine lv_aload_n hx hb dX12_planLength_19 rfl (lv_at hl 0 rfl) ?_
    refine x_getI C S KX12 hx0 24 (by decide) rfl rfl fl_RX12_351 dX12_planLength_20 ?_
    exact x_iret C S hr h dX12_planLength_23
  · have h := it_n c3 h
    refine lv_iconst (v := (0 : Int32)) hx hb dX12_planLength_13 (by decide) ?_
    exact x_iret C S hr h dX12_planLength_14
theorem dX12_planTime_0 : decode cX12_planTime 0 = .ok (.aload_n 0, 1) := by decide +kernel
theorem dX12_planTime_1 : decode cX12_planTime 1 = .ok (.iconst 0, 1) := by decide +kernel
theorem dX12_planTime_2 : decode cX12_planTime 2 = .ok (.putfield 3, 3) := by decide +kernel
theorem dX12_planTime_5 : decode cX12_planTime 5 = .ok (.aload_n 0, 1) := by decide +kernel
theorem dX12_planTime_6 : decode cX12_planTime 6 = .ok (.iload_n 1, 1) := by decide +kernel
theorem dX12_planTime_7 : decode cX12_planTime 7 = .ok (.invokevirtual 198, 3) := by decide +kernel
theorem dX12_planTime_10 : decode cX12_planTime 10 = .ok (.ifCond .ne 11, 3) := by decide +kernel
theorem dX12_planTime_13 : decode cX12_planTime 13 = .ok (.aload_n 0, 1) := by decide +kernel
theorem dX12_planTime_14 : decode cX12_planTime 14 = .ok (.iconst 2, 1) := by decide +kernel
theorem dX12_planTime_15 : decode cX12_planTime 15 = .ok (.invokevirtual 360, 3) := by decide +kernel
theorem dX12_planTime_18 : decode cX12_planTime 18 = .ok (.ifCond .eq 5, 3) := by decide +kernel
theorem dX12_planTime_21 : decode cX12_planTime 21 = .ok (.iconst 0, 1) := by decide +kernel
theorem dX12_planTime_22 : decode cX12_planTime 22 = .ok (.ireturn, 1) := by decide +kernel
theorem dX12_planTime_23 : decode cX12_planTime 23 = .ok (.aload_n 0, 1) := by decide +kernel
theorem dX12_planTime_24 : decode cX12_planTime 24 = .ok (.invokevirtual 363, 3) := by decide +kernel
theorem dX12_planTime_27 : decode cX12_planTime 27 = .ok (.aload_n 0, 1) := by decide +kernel
theorem dX12_planTime_28 : decode cX12_planTime 28 = .ok (.iload_n 1, 1) := by decide +kernel
theorem dX12_planTime_29 : decode cX12_planTime 29 = .ok (.invokevirtual 281, 3) := by decide +kernel
theorem dX12_planTime_32 : decode cX12_planTime 32 = .ok (.iconst (-1), 1) := by decide +kernel
theorem dX12_planTime_33 : decode cX12_planTime 33 = .ok (.if_icmp .eq 11, 3) := by decide +kernel
theorem dX12_planTime_36 : decode cX12_planTime 36 = .ok (.aload_n 0, 1) := by decide +kernel
theorem dX12_planTime_37 : decode cX12_planTime 37 = .ok (.iload_n 1, 1) := by decide +kernel
theorem dX12_planTime_38 : decode cX12_planTime 38 = .ok (.invokevirtual 281, 3) := by decide +kernel
theorem dX12_planTime_41 : decode cX12_planTime 41 = .ok (.goto 21, 3) := by decide +kernel
theorem dX12_planTime_44 : decode cX12_planTime 44 = .ok (.aload_n 0, 1) := by decide +kernel
theorem dX12_planTime_45 : decode cX12_planTime 45 = .ok (.getfield 351, 3) := by decide +kernel
theorem dX12_planTime_48 : decode cX12_planTime 48 = .ok (.iconst (-1), 1) := by decide +kernel
theorem dX12_planTime_49 : decode cX12_planTime 49 = .ok (.if_icmp .ne 7, 3) := by decide +kernel
theorem dX12_planTime_52 : decode cX12_planTime 52 = .ok (.iconst (-1), 1) := by decide +kernel
theorem dX12_planTime_53 : decode cX12_planTime 53 = .ok (.goto 9, 3) := by decide +kernel
theorem dX12_planTime_56 : decode cX12_planTime 56 = .ok (.aload_n 0, 1) := by decide +kernel
theorem dX12_planTime_57 : decode cX12_planTime 57 = .ok (.getfield 116, 3) := by decide +kernel
theorem dX12_planTime_60 : decode cX12_planTime 60 = .ok (.iload_n 1, 1) := by decide +kernel
theorem dX12_planTime_61 : decode cX12_planTime 61 = .ok (.iaload, 1) := by decide +kernel
theorem dX12_planTime_62 : decode cX12_planTime 62 = .ok (.ireturn, 1) := by decide +kernel
def f_X12_planTime (N : Nat) (R : Nat → Nat → Nat) (σ : SI) (x0 : Nat) (x1 : Int32) : Option (Int32 × SI) := sq (up σ x0 0 (0 : Int32)) (fun σ1 => bd (f_X12_noBlast N R σ1 x0 x1) (fun a2 σ2 => if a2 = 0 then (bd (f_X12_cannotPlan N R σ2 x0 (2 : Int32)) (fun a4 σ4 => if a4 = 0 then (bd (f_X12_laysPlan N R σ4 x0) (fun _ σ6 => bd (f_X12_time N R σ6 x0 x1) (fun a7 σ7 => if a7 = (-1 : Int32) then (if (σ7 x0 24) = (-1 : Int32) then (some ((-1 : Int32), σ7)) else (ck x1 6 (some (σ7 (R x0 21) x1.toNatClampNeg, σ7)))) else (bd (f_X12_time N R σ7 x0 x1) (fun a12 σ12 => some (a12, σ12)))))) else (some ((0 : Int32), σ4)))) else (some ((0 : Int32), σ2))))
set_option maxHeartbeats 4000000 in
set_option maxRecDepth 100000 in
theorem ok_X12_planTime {l : Launch} {g : GL} {R : Nat → Nat → Nat} {L : Nat → Nat → Int64} {N : Nat} {σ : SI} {x0 : Nat} {x1 : Int32} {r : (Int32 × SI)} (h : f_X12_planTime N R σ x0 x1 = some r) (hSh : ShR R) (hx0 : Ok 194 x0 12) : Ct l g 17 yX12_planTime cX12_planTime 2 (some .int) 194 194 0 0 [.ref (gb g + x0), .int x1] (mkS σ R L) (PI R L r) := by
  refine Met.ofW (cc := cX12_planTime) (maxL := 2) (ret := (some .int)) (by decide) rfl ?_
  intro p e s m args below meth c s₁ B hml hv
  obtain ⟨rfl, hE, hLo, hWd⟩ := hv
  have hr : meth.sig.returnType = (some .int) := B.returns
  have C : Cx l g p s m meth c cX12_planTime 2 RX12 := ⟨B.exec, B.bytes, hml, findClass_of_methodNamed B.named, hE, hLo, B.notSynchronized⟩
  have S : S2 g s σ R L s.heap [] := ⟨hWd, va_S.rf⟩
  have hx := C.1
  have hb := C.2.1
  have hl := lv_entry ([.ref (gb g + x0), .int x1]) (n := 2) (Nat.le_of_ble_eq_true rfl)
  rw [lg_entry_eq]
  generalize (lg_sl ([.ref (gb g + x0), .int x1]) ++ List.replicate (2 - (lg_sl ([.ref (gb g + x0), .int x1])).length) Slot.unset).toArray = ls at hl ⊢
  have hl : lv_has ls 2 [(0, .ref (gb g + x0)), (1, .int x1)] := hl
  generalize hH : s.heap = H at S ⊢
  generalize hlc : ([] : List Loc) = locs at S ⊢
  rw [f_X12_planTime] at h
  refine lv_aload_n hx hb dX12_planTime_0 rfl (lv_at hl 0 rfl) ?_
  refine lv_iconst (v := (0 : Int32)) hx hb dX12_planTime_1 (by decide) ?_
  obtain ⟨σ1, hs1, h⟩ := sq_el h
  refine x_putI C S KX12 hx0 0 (by decide) rfl rfl rfl ⟨rfl, rfl⟩ fl_RX12_3 dX12_planTime_2 hs1 (fun H locs S => ?_)
  refine lv_aload_n hx hb dX12_planTime_5 rfl (lv_at hl 0 rfl) ?_
  refine lv_iload_n hx hb dX12_planTime_6 rfl (lv_at hl 1 rfl) ?_
  obtain ⟨a2, σ2, hc2, h⟩ := bd_el h
  refine x_callVI C S KX12 hx0 (ok_X12_noBlast (L := L) hc2 hSh hx0) ⟨cd_X12_noBlast, ni_RX12, ml_RX12_198, in_X12_noBlast, sl_X12_noBlast⟩ ⟨by decide, by decide⟩ rfl (rm_ok (by decide) (by decide)) hl.1 rfl (Nat.le_of_ble_eq_true rfl) ⟨by decide, by decide⟩ dX12_planTime_7 (fun H locs S => ?_)
  refine lv_if_ne (tgt := 21) hx hb dX12_planTime_10 (by decide) (fun c3 => ?_) (fun c3 => ?_)
  · have h := it_n c3 h
    refine lv_iconst (v := (0 : Int32)) hx hb dX12_planTime_21 (by decide) ?_
    exact x_iret C S hr h dX12_planTime_22
  · have h := it_p c3 h
    refine lv_aload_n hx hb dX12_planTime_13 rfl (lv_at hl 0 rfl) ?_
    refine lv_iconst (v := (2 : Int32)) hx hb dX12_planTime_14 (by decide) ?_
    obtain ⟨a4, σ4, hc4, h⟩ := bd_el h
    refine x_callVI C S KX12 hx0 (ok_X12_cannotPlan (L := L) hc4 hSh hx0) ⟨cd_X12_cannotPlan, ni_RX12, ml_RX12_360, in_X12_cannotPlan, sl_X12_cannotPlan⟩ ⟨by decide, by decide⟩ rfl (rm_ok (by decide) (by decide)) hl.1 rfl (Nat.le_of_ble_eq_true rfl) ⟨by decide, by decide⟩ dX12_planTime_15 (fun H locs S => ?_)
    refine lv_if_eq (tgt := 23) hx hb dX12_planTime_18 (by decide) (fun c5 => ?_) (fun c5 => ?_)
    · have h := it_p c5 h
      refine lv_aload_n hx hb dX12_planTime_23 rfl (lv_at hl 0 rfl) ?_
      obtain ⟨a6, σ6, hc6, h⟩ := bd_el h
      refine x_callVV C S KX12 hx0 (ok_X12_laysPlan (L := L) hc6 hSh hx0) ⟨cd_X12_laysPlan, ni_RX12, ml_RX12_363, in_X12_laysPlan, sl_X12_laysPlan⟩ ⟨by decide, by decide⟩ rfl (rm_ok (by decide) (by decide)) hl.1 rfl (Nat.le_of_ble_eq_true rfl) ⟨by decide, by decide⟩ dX12_planTime_24 (fun H locs S => ?_)
      refine lv_aload_n hx hb dX12_planTime_27 rfl (lv_at hl 0 rfl) ?_
      refine lv_iload_n hx hb dX12_planTime_28 rfl (lv_at hl 1 rfl) ?_
      obtain ⟨a7, σ7, hc7, h⟩ := bd_el h
      refine x_callVI C S KX12 hx0 (ok_X12_time (L := L) hc7 hSh hx0) ⟨cd_X12_time, ni_RX12, ml_RX12_281, in_X12_time, sl_X12_time⟩ ⟨by decide, by decide⟩ rfl (rm_ok (by decide) (by decide)) hl.1 rfl (Nat.le_of_ble_eq_true rfl) ⟨by decide, by decide⟩ dX12_planTime_29 (fun H locs S => ?_)
      refine lv_iconst (v := (-1 : Int32)) hx hb dX12_planTime_32 (by decide) ?_
      refine lv_icmp_eq (tgt := 44) hx hb dX12_planTime_33 (by decide) (fun c8 => ?_) (fun c8 => ?_)
      · have h := it_p c8 h
        refine lv_aload_n hx hb dX12_planTime_44 rfl (lv_at hl 0 rfl) ?_
        refine x_getI C S KX12 hx0 24 (by decide) rfl rfl fl_RX12_351 dX12_planTime_45 ?_
        refine lv_iconst (v := (-1 : Int32)) hx hb dX12_planTime_48 (by decide) ?_
        refine lv_icmp_ne (tgt := 56) hx hb dX12_planTime_49 (by decide) (fun c9 => ?_) (fun c9 => ?_)
        · have h := it_n c9 h
          refine lv_aload_n hx hb dX12_planTime_56 rfl (lv_at hl 0 rfl) ?_
          have hR10 : Ok 194 (R x0 21) 10006 := hSh x0 12 21 10006 hx0.1 rfl
          refine x_getR C S KX12 hx0 21 (by decide) rfl rfl fl_RX12_116 hR10 dX12_planTime_57 ?_
          refine lv_iload_n hx hb dX12_planTime_60 rfl (lv_at hl 1 rfl) ?_
          obtain ⟨hi11, h⟩ := ck_el h
          refine x_iald (len := 6) C S (by decide) hR10 hi11 dX12_planTime_61 ?_
          exact x_iret C S hr h dX12_planTime_62
        · have h := it_p c9 h
          refine lv_iconst (v := (-1 : Int32)) hx hb dX12_planTime_52 (by decide) ?_
          refine lv_goto (tgt := 62) hx hb dX12_planTime_53 (by decide) ?_
          exact x_iret C S hr h dX12_planTime_62
      · have h := it_n c8 h
        refine lv_aload_n hx hb dX12_planTime_36 rfl (lv_at hl 0 rfl) ?_
        refine lv_iload_n hx hb dX12_planTime_37 rfl (lv_at hl 1 rfl) ?_
        obtain ⟨a12, σ12, hc12, h⟩ := bd_el h
        refine x_callVI C S KX12 hx0 (ok_X12_time (L := L) hc12 hSh hx0) ⟨cd_X12_time, ni_RX12, ml_RX12_281, in_X12_time, sl_X12_time⟩ ⟨by decide, by decide⟩ rfl (rm_ok (by decide) (by decide)) hl.1 rfl (Nat.le_of_ble_eq_true rfl) ⟨by decide, by decide⟩ dX12_planTime_38 (fun H locs S => ?_)
        refine lv_goto (tgt := 62) hx hb dX12_planTime_41 (by decide) ?_
        exact x_iret C S hr h dX12_planTime_62
    · have h := it_n c5 h
      refine lv_iconst (v := (0 : Int32)) hx hb dX12_planTime_21 (by decide) ?_
      exact x_iret C S hr h dX12_planTime_22
theorem dX12_applyPlan_0 : decode cX12_applyPlan 0 = .ok (.aload_n 0, 1) := by decide +kernel
theorem dX12_applyPlan_1 : decode cX12_applyPlan 1 = .ok (.iconst 0, 1) := by decide +kernel
theorem dX12_applyPlan_2 : decode cX12_applyPlan 2 = .ok (.putfield 3, 3) := by decide +kernel
theorem dX12_applyPlan_5 : decode cX12_applyPlan 5 = .ok (.aload_n 0, 1) := by decide +kernel
theorem dX12_applyPlan_6 : decode cX12_applyPlan 6 = .ok (.iconst 1, 1) := by decide +kernel
theorem dX12_applyPlan_7 : decode cX12_applyPlan 7 = .ok (.invokevirtual 360, 3) := by decide +kernel
theorem dX12_applyPlan_10 : decode cX12_applyPlan 10 = .ok (.ifCond .eq 5, 3) := by decide +kernel
theorem dX12_applyPlan_13 : decode cX12_applyPlan 13 = .ok (.iconst 0, 1) := by decide +kernel
theorem dX12_applyPlan_14 : decode cX12_applyPlan 14 = .ok (.ireturn, 1) := by decide +kernel
theorem dX12_applyPlan_15 : decode cX12_applyPlan 15 = .ok (.aload_n 0, 1) := by decide +kernel
theorem dX12_applyPlan_16 : decode cX12_applyPlan 16 = .ok (.invokevirtual 363, 3) := by decide +kernel
theorem dX12_applyPlan_19 : decode cX12_applyPlan 19 = .ok (.aload_n 0, 1) := by decide +kernel
theorem dX12_applyPlan_20 : decode cX12_applyPlan 20 = .ok (.aload_n 0, 1) := by decide +kernel
theorem dX12_applyPlan_21 : decode cX12_applyPlan 21 = .ok (.getfield 351, 3) := by decide +kernel
theorem dX12_applyPlan_24 : decode cX12_applyPlan 24 = .ok (.iconst (-1), 1) := by decide +kernel
theorem dX12_applyPlan_25 : decode cX12_applyPlan 25 = .ok (.if_icmp .ne 7, 3) := by decide +kernel
theorem dX12_applyPlan_28 : decode cX12_applyPlan 28 = .ok (.iconst 1, 1) := by decide +kernel
theorem dX12_applyPlan_29 : decode cX12_applyPlan 29 = .ok (.goto 4, 3) := by decide +kernel
theorem dX12_applyPlan_32 : decode cX12_applyPlan 32 = .ok (.iconst 0, 1) := by decide +kernel
theorem dX12_applyPlan_33 : decode cX12_applyPlan 33 = .ok (.iconst 1, 1) := by decide +kernel
theorem dX12_applyPlan_34 : decode cX12_applyPlan 34 = .ok (.invokevirtual 185, 3) := by decide +kernel
theorem dX12_applyPlan_37 : decode cX12_applyPlan 37 = .ok (.ifCond .eq 5, 3) := by decide +kernel
theorem dX12_applyPlan_40 : decode cX12_applyPlan 40 = .ok (.iconst 0, 1) := by decide +kernel
theorem dX12_applyPlan_41 : decode cX12_applyPlan 41 = .ok (.ireturn, 1) := by decide +kernel
theorem dX12_applyPlan_42 : decode cX12_applyPlan 42 = .ok (.aload_n 0, 1) := by decide +kernel
theorem dX12_applyPlan_43 : decode cX12_applyPlan 43 = .ok (.invokevirtual 142, 3) := by decide +kernel
theorem dX12_applyPlan_46 : decode cX12_applyPlan 46 = .ok (.aload_n 0, 1) := by decide +kernel
theorem dX12_applyPlan_47 : decode cX12_applyPlan 47 = .ok (.invokevirtual 339, 3) := by decide +kernel
theorem dX12_applyPlan_50 : decode cX12_applyPlan 50 = .ok (.isub, 1) := by decide +kernel
theorem dX12_applyPlan_51 : decode cX12_applyPlan 51 = .ok (.istore_n 1, 1) := by decide +kernel
theorem dX12_applyPlan_52 : decode cX12_applyPlan 52 = .ok (.aload_n 0, 1) := by decide +kernel
theorem dX12_applyPlan_53 : decode cX12_applyPlan 53 = .ok (.invokevirtual 311, 3) := by decide +kernel
theorem dX12_applyPlan_56 : decode cX12_applyPlan 56 = .ok (.iconst 0, 1) := by decide +kernel
theorem dX12_applyPlan_57 : decode cX12_applyPlan 57 = .ok (.istore_n 2, 1) := by decide +kernel
theorem dX12_applyPlan_58 : decode cX12_applyPlan 58 = .ok (.iload_n 2, 1) := by decide +kernel
theorem dX12_applyPlan_59 : decode cX12_applyPlan 59 = .ok (.aload_n 0, 1) := by decide +kernel
theorem dX12_applyPlan_60 : decode cX12_applyPlan 60 = .ok (.invokevirtual 142, 3) := by decide +kernel
theorem dX12_applyPlan_63 : decode cX12_applyPlan 63 = .ok (.if_icmp .ge 26, 3) := by decide +kernel
theorem dX12_applyPlan_66 : decode cX12_applyPlan 66 = .ok (.aload_n 0, 1) := by decide +kernel
theorem dX12_applyPlan_67 : decode cX12_applyPlan 67 = .ok (.getfield 94, 3) := by decide +kernel
theorem dX12_applyPlan_70 : decode cX12_applyPlan 70 = .ok (.bipush 14, 2) := by decide +kernel
theorem dX12_applyPlan_72 : decode cX12_applyPlan 72 = .ok (.iload_n 2, 1) := by decide +kernel
theorem dX12_applyPlan_73 : decode cX12_applyPlan 73 = .ok (.imul, 1) := by decide +kernel
theorem dX12_applyPlan_74 : decode cX12_applyPlan 74 = .ok (.iconst 0, 1) := by decide +kernel
theorem dX12_applyPlan_75 : decode cX12_applyPlan 75 = .ok (.iadd, 1) := by decide +kernel
theorem dX12_applyPlan_76 : decode cX12_applyPlan 76 = .ok (.aload_n 0, 1) := by decide +kernel
theorem dX12_applyPlan_77 : decode cX12_applyPlan 77 = .ok (.getfield 116, 3) := by decide +kernel
theorem dX12_applyPlan_80 : decode cX12_applyPlan 80 = .ok (.iload_n 2, 1) := by decide +kernel
theorem dX12_applyPlan_81 : decode cX12_applyPlan 81 = .ok (.iaload, 1) := by decide +kernel
theorem dX12_applyPlan_82 : decode cX12_applyPlan 82 = .ok (.iastore, 1) := by decide +kernel
theorem dX12_applyPlan_83 : decode cX12_applyPlan 83 = .ok (.iinc 2 1, 3) := by decide +kernel
theorem dX12_applyPlan_86 : decode cX12_applyPlan 86 = .ok (.goto (-28), 3) := by decide +kernel
theorem dX12_applyPlan_89 : decode cX12_applyPlan 89 = .ok (.iload_n 1, 1) := by decide +kernel
theorem dX12_applyPlan_90 : decode cX12_applyPlan 90 = .ok (.ireturn, 1) := by decide +kernel
def f_X12_applyPlan_58 (N : Nat) (R : Nat → Nat → Nat) : Nat → SI → Nat → Int32 → Int32 → Option (Int32 × SI)
  | 0, _, _, _, _ => none
  | n + 1, σ, x0, x1, x2 => bd (f_X12_blasts N R σ x0) (fun a11 σ11 => if a11 ≤ x2 then (some (x1, σ11)) else (ck x2 6 (ck (((14 : Int32) * x2) + (0 : Int32)) 84 (sq (up σ11 (R x0 13) (((14 : Int32) * x2) + (0 : Int32)).toNatClampNeg (σ11 (R x0 21) x2.toNatClampNeg)) (fun σ17 => f_X12_applyPlan_58 N R n σ17 x0 x1 (x2 + 1))))))
def f_X12_applyPlan (N : Nat) (R : Nat → Nat → Nat) (σ : SI) (x0 : Nat) : Option (Int32 × SI) := sq (up σ x0 0 (0 : Int32)) (fun σ1 => bd (f_X12_cannotPlan N R σ1 x0 (1 : Int32)) (fun a2 σ2 => if a2 = 0 then (bd (f_X12_laysPlan N R σ2 x0) (fun _ σ4 => if (σ4 x0 24) = (-1 : Int32) then (bd (f_X12_throwsIf N R σ4 x0 (1 : Int32) (1 : Int32)) (fun a18 σ18 => if a18 = 0 then (bd (f_X12_blasts N R σ18 x0) (fun a20 σ20 => bd (f_X12_timed N R σ20 x0) (fun a21 σ21 => bd (f_X12_keeps N R σ21 x0) (fun _ σ22 => f_X12_applyPlan_58 N R N σ22 x0 (a20 - a21) (0 : Int32))))) else (some ((0 : Int32), σ18)))) else (bd (f_X12_throwsIf N R σ4 x0 (0 : Int32) (1 : Int32)) (fun a6 σ6 => if a6 = 0 then (bd (f_X12_blasts N R σ6 x0) (fun a8 σ8 => bd (f_X12_timed N R σ8 x0) (fun a9 σ9 => bd (f_X12_keeps N R σ9 x0) (fun _ σ10 => f_X12_applyPlan_58 N R N σ10 x0 (a8 - a9) (0 : Int32))))) else (some ((0 : Int32), σ6)))))) else (some ((0 : Int32), σ2))))
set_option maxHeartbeats 4000000 in
set_option maxRecDepth 100000 in
theorem w_X12_applyPlan_58 {l : Launch} {g : GL} {p : Program} {e : Jvm.Env} {s : State} {m : MethodId} {args : Array Value} {below : List Frame} {meth : Method} {c : Code} {R : Nat → Nat → Nat} {L : Nat → Nat → Int64} {r : (Int32 × SI)} {N : Nat} (C : Cx l g p s m meth c cX12_applyPlan 3 RX12) (hr : meth.sig.returnType = (some .int)) (hSh : ShR R) : ∀ (n : Nat) (σ : SI) (x0 : Nat) (x1 : Int32) (x2 : Int32), f_X12_applyPlan_58 N R n σ x0 x1 x2 = some r → Ok 194 x0 12 → ∀ (H : Heap) (locs : List Loc) (ls : Array Slot), S2 g s σ R L H locs → lv_has ls 3 [(0, .ref (gb g + x0)), (1, .int x1), (2, .int x2)] → W p l e (rmd 17 0 0) s m args below meth c H locs 0 0 (MQ below (Qg g 194 (PI R L r)) args s 0 0 (gA g)) (F0 m 58 ls []) := by
  have hx := C.1
  have hb := C.2.1
  intro n
  induction n with
  | zero =>
    intro σ x0 x1 x2 h
    cases (show (none : Option (Int32 × SI)) = some r from h)
  | succ n ih =>
    intro σ x0 x1 x2 h hx0 H locs ls S hl
    rw [f_X12_applyPlan_58] at h
    refine lv_iload_n hx hb dX12_applyPlan_58 rfl (lv_at hl 2 rfl) ?_
    refine lv_aload_n hx hb dX12_applyPlan_59 rfl (lv_at hl 0 rfl) ?_
    obtain ⟨a11, σ11, hc11, h⟩ := bd_el h
    refine x_callVI C S KX12 hx0 (ok_X12_blasts (L := L) hc11 hSh hx0) ⟨cd_X12_blasts, ni_RX12, ml_RX12_142, in_X12_blasts, sl_X12_blasts⟩ ⟨by decide, by decide⟩ rfl (rm_ok (by decide) (by decide)) hl.1 rfl (Nat.le_of_ble_eq_true rfl) ⟨by decide, by decide⟩ dX12_applyPlan_60 (fun H locs S => ?_)
    refine lv_icmp_ge (tgt := 89) hx hb dX12_applyPlan_63 (by decide) (fun c12 => ?_) (fun c12 => ?_)
    · have h := it_p c12 h
      refine lv_iload_n hx hb dX12_applyPlan_89 rfl (lv_at hl 1 rfl) ?_
      exact x_iret C S hr h dX12_applyPlan_90
    · have h := it_n c12 h
      refine lv_aload_n hx hb dX12_applyPlan_66 rfl (lv_at hl 0 rfl) ?_
      have hR13 : Ok 194 (R x0 13) 10084 := hSh x0 12 13 10084 hx0.1 rfl
      refine x_getR C S KX12 hx0 13 (by decide) rfl rfl fl_RX12_94 hR13 dX12_applyPlan_67 ?_
      refine lv_bipush (v := (14 : Int32)) hx hb dX12_applyPlan_70 (by decide) ?_
      refine lv_iload_n hx hb dX12_applyPlan_72 rfl (lv_at hl 2 rfl) ?_
      refine lv_imul hx hb dX12_applyPlan_73 ?_
      refine lv_iconst (v := (0 : Int32)) hx hb dX12_applyPlan_74 (by decide) ?_
      refine lv_iadd hx hb dX12_applyPlan_75 ?_
      refine lv_aload_n hx hb dX12_applyPlan_76 rfl (lv_at hl 0 rfl) ?_
      have hR14 : Ok 194 (R x0 21) 10006 := hSh x0 12 21 10006 hx0.1 rfl
      refine x_getR C S KX12 hx0 21 (by decide) rfl rfl fl_RX12_116 hR14 dX12_applyPlan_77 ?_
      refine lv_iload_n hx hb dX12_applyPlan_80 rfl (lv_at hl 2 rfl) ?_
      obtain ⟨hi15, h⟩ := ck_el h
      refine x_iald (len := 6) C S (by decide) hR14 hi15 dX12_applyPlan_81 ?_
      obtain ⟨hi16, h⟩ := ck_el h
      obtain ⟨σ17, hs17, h⟩ := sq_el h
      refine x_iast (len := 84) C S (by decide) hR13 hi16 dX12_applyPlan_82 hs17 (fun H locs S => ?_)
      refine lv_iinc (v := x2 + 1) (lv' := [(2, .int (x2 + 1)), (0, .ref (gb g + x0)), (1, .int x1)]) hx hb dX12_applyPlan_83 hl (k := 2) rfl rfl (by decide) rfl (fun ls hl => ?_)
      refine lv_goto (tgt := 58) hx hb dX12_applyPlan_86 (by decide) ?_
      exact ih σ17 x0 x1 (x2 + 1) h hx0 H locs ls S (lv_sub hl [1, 2, 0] rfl)
set_option maxHeartbeats 4000000 in
set_option maxRecDepth 100000 in
theorem ok_X12_applyPlan {l : Launch} {g : GL} {R : Nat → Nat → Nat} {L : Nat → Nat → Int64} {N : Nat} {σ : SI} {x0 : Nat} {r : (Int32 × SI)} (h : f_X12_applyPlan N R σ x0 = some r) (hSh : ShR R) (hx0 : Ok 194 x0 12) : Ct l g 17 yX12_applyPlan cX12_applyPlan 3 (some .int) 194 194 0 0 [.ref (gb g + x0)] (mkS σ R L) (PI R L r) := by
  refine Met.ofW (cc := cX12_applyPlan) (maxL := 3) (ret := (some .int)) (by decide) rfl ?_
  intro p e s m args below meth c s₁ B hml hv
  obtain ⟨rfl, hE, hLo, hWd⟩ := hv
  have hr : meth.sig.returnType = (some .int) := B.returns
  have C : Cx l g p s m meth c cX12_applyPlan 3 RX12 := ⟨B.exec, B.bytes, hml, findClass_of_methodNamed B.named, hE, hLo, B.notSynchronized⟩
  have S : S2 g s σ R L s.heap [] := ⟨hWd, va_S.rf⟩
  have hx := C.1
  have hb := C.2.1
  have hl := lv_entry ([.ref (gb g + x0)]) (n := 3) (Nat.le_of_ble_eq_true rfl)
  rw [lg_entry_eq]
  generalize (lg_sl ([.ref (gb g + x0)]) ++ List.replicate (3 - (lg_sl ([.ref (gb g + x0)])).length) Slot.unset).toArray = ls at hl ⊢
  have hl : lv_has ls 3 [(0, .ref (gb g + x0))] := hl
  generalize hH : s.heap = H at S ⊢
  generalize hlc : ([] : List Loc) = locs at S ⊢
  rw [f_X12_applyPlan] at h
  refine lv_aload_n hx hb dX12_applyPlan_0 rfl (lv_at hl 0 rfl) ?_
  refine lv_iconst (v := (0 : Int32)) hx hb dX12_applyPlan_1 (by decide) ?_
  obtain ⟨σ1, hs1, h⟩ := sq_el h
  refine x_putI C S KX12 hx0 0 (by decide) rfl rfl rfl ⟨rfl, rfl⟩ fl_RX12_3 dX12_applyPlan_2 hs1 (fun H locs S => ?_)
  refine lv_aload_n hx hb dX12_applyPlan_5 rfl (lv_at hl 0 rfl) ?_
  refine lv_iconst (v := (1 : Int32)) hx hb dX12_applyPlan_6 (by decide) ?_
  obtain ⟨a2, σ2, hc2, h⟩ := bd_el h
  refine x_callVI C S KX12 hx0 (ok_X12_cannotPlan (L := L) hc2 hSh hx0) ⟨cd_X12_cannotPlan, ni_RX12, ml_RX12_360, in_X12_cannotPlan, sl_X12_cannotPlan⟩ ⟨by decide, by decide⟩ rfl (rm_ok (by decide) (by decide)) hl.1 rfl (Nat.le_of_ble_eq_true rfl) ⟨by decide, by decide⟩ dX12_applyPlan_7 (fun H locs S => ?_)
  refine lv_if_eq (tgt := 15) hx hb dX12_applyPlan_10 (by decide) (fun c3 => ?_) (fun c3 => ?_)
  · have h := it_p c3 h
    refine lv_aload_n hx hb dX12_applyPlan_15 rfl (lv_at hl 0 rfl) ?_
    obtain ⟨a4, σ4, hc4, h⟩ := bd_el h
    refine x_callVV C S KX12 hx0 (ok_X12_laysPlan (L := L) hc4 hSh hx0) ⟨cd_X12_laysPlan, ni_RX12, ml_RX12_363, in_X12_laysPlan, sl_X12_laysPlan⟩ ⟨by decide, by decide⟩ rfl (rm_ok (by decide) (by decide)) hl.1 rfl (Nat.le_of_ble_eq_true rfl) ⟨by decide, by decide⟩ dX12_applyPlan_16 (fun H locs S => ?_)
    refine lv_aload_n hx hb dX12_applyPlan_19 rfl (lv_at hl 0 rfl) ?_
    refine lv_aload_n hx hb dX12_applyPlan_20 rfl (lv_at hl 0 rfl) ?_
    refine x_getI C S KX12 hx0 24 (by decide) rfl rfl fl_RX12_351 dX12_applyPlan_21 ?_
    refine lv_iconst (v := (-1 : Int32)) hx hb dX12_applyPlan_24 (by decide) ?_
    refine lv_icmp_ne (tgt := 32) hx hb dX12_applyPlan_25 (by decide) (fun c5 => ?_) (fun c5 => ?_)
    · have h := it_n c5 h
      refine lv_iconst (v := (0 : Int32)) hx hb dX12_applyPlan_32 (by decide) ?_
      refine lv_iconst (v := (1 : Int32)) hx hb dX12_applyPlan_33 (by decide) ?_
      obtain ⟨a6, σ6, hc6, h⟩ := bd_el h
      refine x_callVI C S KX12 hx0 (ok_X12_throwsIf (L := L) hc6 hSh hx0) ⟨cd_X12_throwsIf, ni_RX12, ml_RX12_185, in_X12_throwsIf, sl_X12_throwsIf⟩ ⟨by decide, by decide⟩ rfl (rm_ok (by decide) (by decide)) hl.1 rfl (Nat.le_of_ble_eq_true rfl) ⟨by decide, by decide⟩ dX12_applyPlan_34 (fun H locs S => ?_)
      refine lv_if_eq (tgt := 42) hx hb dX12_applyPlan_37 (by decide) (fun c7 => ?_) (fun c7 => ?_)
      · have h := it_p c7 h
        refine lv_aload_n hx hb dX12_applyPlan_42 rfl (lv_at hl 0 rfl) ?_
        obtain ⟨a8, σ8, hc8, h⟩ := bd_el h
        refine x_callVI C S KX12 hx0 (ok_X12_blasts (L := L) hc8 hSh hx0) ⟨cd_X12_blasts, ni_RX12, ml_RX12_142, in_X12_blasts, sl_X12_blasts⟩ ⟨by decide, by decide⟩ rfl (rm_ok (by decide) (by decide)) hl.1 rfl (Nat.le_of_ble_eq_true rfl) ⟨by decide, by decide⟩ dX12_applyPlan_43 (fun H locs S => ?_)
        refine lv_aload_n hx hb dX12_applyPlan_46 rfl (lv_at hl 0 rfl) ?_
        obtain ⟨a9, σ9, hc9, h⟩ := bd_el h
        refine x_callVI C S KX12 hx0 (ok_X12_timed (L := L) hc9 hSh hx0) ⟨cd_X12_timed, ni_RX12, ml_RX12_339, in_X12_timed, sl_X12_timed⟩ ⟨by decide, by decide⟩ rfl (rm_ok (by decide) (by decide)) hl.1 rfl (Nat.le_of_ble_eq_true rfl) ⟨by decide, by decide⟩ dX12_applyPlan_47 (fun H locs S => ?_)
        refine lv_isub hx hb dX12_applyPlan_50 ?_
        refine lv_istore_n (lv' := [(1, .int (a8 - a9)), (0, .ref (gb g + x0))]) hx hb dX12_applyPlan_51 rfl hl (by decide) rfl (fun ls hl => ?_)
        refine lv_aload_n hx hb dX12_applyPlan_52 rfl (lv_at hl 1 rfl) ?_
        obtain ⟨a10, σ10, hc10, h⟩ := bd_el h
        refine x_callVV C S KX12 hx0 (ok_X12_keeps (L := L) hc10 hSh hx0) ⟨cd_X12_keeps, ni_RX12, ml_RX12_311, in_X12_keeps, sl_X12_keeps⟩ ⟨by decide, by decide⟩ rfl (rm_ok (by decide) (by decide)) hl.1 rfl (Nat.le_of_ble_eq_true rfl) ⟨by decide, by decide⟩ dX12_applyPlan_53 (fun H locs S => ?_)
        refine lv_iconst (v := (0 : Int32)) hx hb dX12_applyPlan_56 (by decide) ?_
        refine lv_istore_n (lv' := [(2, .int (0 : Int32)), (1, .int (a8 - a9)), (0, .ref (gb g + x0))]) hx hb dX12_applyPlan_57 rfl hl (by decide) rfl (fun ls hl => ?_)
        exact w_X12_applyPlan_58 C hr hSh N σ10 x0 (a8 - a9) (0 : Int32) h hx0 H locs ls S (lv_sub hl [2, 1, 0] rfl)
      · have h := it_n c7 h
        refine lv_iconst (v := (0 : Int32)) hx hb dX12_applyPlan_40 (by decide) ?_
        exact x_iret C S hr h dX12_applyPlan_41
    · have h := it_p c5 h
      refine lv_iconst (v := (1 : Int32)) hx hb dX12_applyPlan_28 (by decide) ?_
      refine lv_goto (tgt := 33) hx hb dX12_applyPlan_29 (by decide) ?_
      refine lv_iconst (v := (1 : Int32)) hx hb dX12_applyPlan_33 (by decide) ?_
      obtain ⟨a18, σ18, hc18, h⟩ := bd_el h
      refine x_callVI C S KX12 hx0 (ok_X12_throwsIf (L := L) hc18 hSh hx0) ⟨cd_X12_throwsIf, ni_RX12, ml_RX12_185, in_X12_throwsIf, sl_X12_throwsIf⟩ ⟨by decide, by decide⟩ rfl (rm_ok (by decide) (by decide)) hl.1 rfl (Nat.le_of_ble_eq_true rfl) ⟨by decide, by decide⟩ dX12_applyPlan_34 (fun H locs S => ?_)
      refine lv_if_eq (tgt := 42) hx hb dX12_applyPlan_37 (by decide) (fun c19 => ?_) (fun c19 => ?_)
      · have h := it_p c19 h
        refine lv_aload_n hx hb dX12_applyPlan_42 rfl (lv_at hl 0 rfl) ?_
        obtain ⟨a20, σ20, hc20, h⟩ := bd_el h
        refine x_callVI C S KX12 hx0 (ok_X12_blasts (L := L) hc20 hSh hx0) ⟨cd_X12_blasts, ni_RX12, ml_RX12_142, in_X12_blasts, sl_X12_blasts⟩ ⟨by decide, by decide⟩ rfl (rm_ok (by decide) (by decide)) hl.1 rfl (Nat.le_of_ble_eq_true rfl) ⟨by decide, by decide⟩ dX12_applyPlan_43 (fun H locs S => ?_)
        refine lv_aload_n hx hb dX12_applyPlan_46 rfl (lv_at hl 0 rfl) ?_
        obtain ⟨a21, σ21, hc21, h⟩ := bd_el h
        refine x_callVI C S KX12 hx0 (ok_X12_timed (L := L) hc21 hSh hx0) ⟨cd_X12_timed, ni_RX12, ml_RX12_339, in_X12_timed, sl_X12_timed⟩ ⟨by decide, by decide⟩ rfl (rm_ok (by decide) (by decide)) hl.1 rfl (Nat.le_of_ble_eq_true rfl) ⟨by decide, by decide⟩ dX12_applyPlan_47 (fun H locs S => ?_)
        refine lv_isub hx hb dX12_applyPlan_50 ?_
        refine lv_istore_n (lv' := [(1, .int (a20 - a21)), (0, .ref (gb g + x0))]) hx hb dX12_applyPlan_51 rfl hl (by decide) rfl (fun ls hl => ?_)
        refine lv_aload_n hx hb dX12_applyPlan_52 rfl (lv_at hl 1 rfl) ?_
        obtain ⟨a22, σ22, hc22, h⟩ := bd_el h
        refine x_callVV C S KX12 hx0 (ok_X12_keeps (L := L) hc22 hSh hx0) ⟨cd_X12_keeps, ni_RX12, ml_RX12_311, in_X12_keeps, sl_X12_keeps⟩ ⟨by decide, by decide⟩ rfl (rm_ok (by decide) (by decide)) hl.1 rfl (Nat.le_of_ble_eq_true rfl) ⟨by decide, by decide⟩ dX12_applyPlan_53 (fun H locs S => ?_)
        refine lv_iconst (v := (0 : Int32)) hx hb dX12_applyPlan_56 (by decide) ?_
        refine lv_istore_n (lv' := [(2, .int (0 : Int32)), (1, .int (a20 - a21)), (0, .ref (gb g + x0))]) hx hb dX12_applyPlan_57 rfl hl (by decide) rfl (fun ls hl => ?_)
        exact w_X12_applyPlan_58 C hr hSh N σ22 x0 (a20 - a21) (0 : Int32) h hx0 H locs ls S (lv_sub hl [2, 1, 0] rfl)
      · have h := it_n c19 h
        refine lv_iconst (v := (0 : Int32)) hx hb dX12_applyPlan_40 (by decide) ?_
        exact x_iret C S hr h dX12_applyPlan_41
  · have h := it_n c3 h
    refine lv_iconst (v := (0 : Int32)) hx hb dX12_applyPlan_13 (by decide) ?_
    exact x_iret C S hr h dX12_applyPlan_14
theorem dX11_quietMinutes_0 : decode cX11_quietMinutes 0 = .ok (.aload_n 0, 1) := by decide +kernel
theorem dX11_quietMinutes_1 : decode cX11_quietMinutes 1 = .ok (.iload_n 1, 1) := by decide +kernel
theorem dX11_quietMinutes_2 : decode cX11_quietMinutes 2 = .ok (.invokevirtual 156, 3) := by decide +kernel
theorem dX11_quietMinutes_5 : decode cX11_quietMinutes 5 = .ok (.astore_n 2, 1) := by decide +kernel
theorem dX11_quietMinutes_6 : decode cX11_quietMinutes 6 = .ok (.aload_n 0, 1) := by decide +kernel
theorem dX11_quietMinutes_7 : decode cX11_quietMinutes 7 = .ok (.getfield 47, 3) := by decide +kernel
theorem dX11_quietMinutes_10 : decode cX11_quietMinutes 10 = .ok (.invokevirtual 208, 3) := by decide +kernel
theorem dX11_quietMinutes_13 : decode cX11_quietMinutes 13 = .ok (.iconst 0, 1) := by decide +kernel
theorem dX11_quietMinutes_14 : decode cX11_quietMinutes 14 = .ok (.istore_n 3, 1) := by decide +kernel
theorem dX11_quietMinutes_15 : decode cX11_quietMinutes 15 = .ok (.iload_n 3, 1) := by decide +kernel
theorem dX11_quietMinutes_16 : decode cX11_quietMinutes 16 = .ok (.aload_n 2, 1) := by decide +kernel
theorem dX11_quietMinutes_17 : decode cX11_quietMinutes 17 = .ok (.getfield 209, 3) := by decide +kernel
theorem dX11_quietMinutes_20 : decode cX11_quietMinutes 20 = .ok (.if_icmp .ge 28, 3) := by decide +kernel
theorem dX11_quietMinutes_23 : decode cX11_quietMinutes 23 = .ok (.aload_n 0, 1) := by decide +kernel
theorem dX11_quietMinutes_24 : decode cX11_quietMinutes 24 = .ok (.getfield 47, 3) := by decide +kernel
theorem dX11_quietMinutes_27 : decode cX11_quietMinutes 27 = .ok (.aload_n 2, 1) := by decide +kernel
theorem dX11_quietMinutes_28 : decode cX11_quietMinutes 28 = .ok (.getfield 212, 3) := by decide +kernel
theorem dX11_quietMinutes_31 : decode cX11_quietMinutes 31 = .ok (.iload_n 3, 1) := by decide +kernel
theorem dX11_quietMinutes_32 : decode cX11_quietMinutes 32 = .ok (.iaload, 1) := by decide +kernel
theorem dX11_quietMinutes_33 : decode cX11_quietMinutes 33 = .ok (.aload_n 2, 1) := by decide +kernel
theorem dX11_quietMinutes_34 : decode cX11_quietMinutes 34 = .ok (.getfield 215, 3) := by decide +kernel
theorem dX11_quietMinutes_37 : decode cX11_quietMinutes 37 = .ok (.iload_n 3, 1) := by decide +kernel
theorem dX11_quietMinutes_38 : decode cX11_quietMinutes 38 = .ok (.iaload, 1) := by decide +kernel
theorem dX11_quietMinutes_39 : decode cX11_quietMinutes 39 = .ok (.invokevirtual 218, 3) := by decide +kernel
theorem dX11_quietMinutes_42 : decode cX11_quietMinutes 42 = .ok (.iinc 3 1, 3) := by decide +kernel
theorem dX11_quietMinutes_45 : decode cX11_quietMinutes 45 = .ok (.goto (-30), 3) := by decide +kernel
theorem dX11_quietMinutes_48 : decode cX11_quietMinutes 48 = .ok (.aload_n 0, 1) := by decide +kernel
theorem dX11_quietMinutes_49 : decode cX11_quietMinutes 49 = .ok (.getfield 47, 3) := by decide +kernel
theorem dX11_quietMinutes_52 : decode cX11_quietMinutes 52 = .ok (.invokevirtual 222, 3) := by decide +kernel
theorem dX11_quietMinutes_55 : decode cX11_quietMinutes 55 = .ok (.ireturn, 1) := by decide +kernel
def f_X11_quietMinutes_15 (N : Nat) (R : Nat → Nat → Nat) : Nat → SI → Nat → Nat → Int32 → Option ((Int32 ⊕ Nat) × SI)
  | 0, _, _, _, _ => none
  | n + 1, σ, x0, x2, x3 => if (σ x2 5) ≤ x3 then (bd (f_X3_size N R σ (R x0 5)) (fun a7 σ7 => some (.inl a7, σ7))) else (ck x3 4 (ck x3 4 (bd (f_X3_add N R σ (R x0 5) (σ (R x2 0) x3.toNatClampNeg) (σ (R x2 1) x3.toNatClampNeg)) (fun _ σ13 => f_X11_quietMinutes_15 N R n σ13 x0 x2 (x3 + 1)))))
def f_X11_quietMinutes (N : Nat) (R : Nat → Nat → Nat) (σ : SI) (x0 : Nat) (x1 : Int32) : Option ((Int32 ⊕ Nat) × SI) := bdX (f_X11_neighbourAt N R σ x0 x1) (fun a2 σ2 => bd (f_X3_clear N R σ2 (R x0 5)) (fun _ σ4 => f_X11_quietMinutes_15 N R N σ4 x0 a2 (0 : Int32)))
set_option maxHeartbeats 4000000 in
set_option maxRecDepth 100000 in
theorem w_X11_quietMinutes_15 {l : Launch} {g : GL} {p : Program} {e : Jvm.Env} {s : State} {m : MethodId} {args : Array Value} {below : List Frame} {meth : Method} {c : Code} {R : Nat → Nat → Nat} {L : Nat → Nat → Int64} {r : ((Int32 ⊕ Nat) × SI)} {N : Nat} (C : Cx l g p s m meth c cX11_quietMinutes 4 RX11) (hr : meth.sig.returnType = (some .int)) (hT : ∀ x ∈ c.exceptionTable.toList, False) (hSh : ShR R) : ∀ (n : Nat) (σ : SI) (x0 : Nat) (x2 : Nat) (x3 : Int32), f_X11_quietMinutes_15 N R n σ x0 x2 x3 = some r → Ok 194 x0 11 → Ok 194 x2 4 → ∀ (H : Heap) (locs : List Loc) (ls : Array Slot), S2 g s σ R L H locs → lv_has ls 4 [(0, .ref (gb g + x0)), (2, .ref (gb g + x2)), (3, .int x3)] → W p l e (rmd 7 1 6) s m args below meth c H locs 1 (6 * 1) (vx_MQ below (Qg g 194 (PIX R L r)) (Xg g 194 (PX R L r)) args s 1 6 (gA g)) (F0 m 15 ls []) := by
  have hx := C.1
  have hb := C.2.1
  intro n
  induction n with
  | zero =>
    intro σ x0 x2 x3 h
    cases (show (none : Option ((Int32 ⊕ Nat) × SI)) = some r from h)
  | succ n ih =>
    intro σ x0 x2 x3 h hx0 hx2 H locs ls S hl
    rw [f_X11_quietMinutes_15] at h
    refine lv_iload_n hx hb dX11_quietMinutes_15 rfl (lv_at hl 2 rfl) ?_
    refine lv_aload_n hx hb dX11_quietMinutes_16 rfl (lv_at hl 1 rfl) ?_
    refine x_getI C S KX4 hx2 5 (by decide) rfl rfl fl_RX11_209 dX11_quietMinutes_17 ?_
    refine lv_icmp_ge (tgt := 48) hx hb dX11_quietMinutes_20 (by decide) (fun c5 => ?_) (fun c5 => ?_)
    · have h := it_p c5 h
      refine lv_aload_n hx hb dX11_quietMinutes_48 rfl (lv_at hl 0 rfl) ?_
      have hR6 : Ok 194 (R x0 5) 3 := hSh x0 11 5 3 hx0.1 rfl
      refine x_getR C S KX11 hx0 5 (by decide) rfl rfl fl_RX11_47 hR6 dX11_quietMinutes_49 ?_
      obtain ⟨a7, σ7, hc7, h⟩ := bd_el h
      refine x_callVI C S KX3 hR6 (ok_X3_size (L := L) hc7 hSh hR6) ⟨cd_X3_size, ni_RX3, ml_RX11_222, in_X3_size, sl_X3_size⟩ ⟨by decide, by decide⟩ rfl (rm_ok (by decide) (by decide)) hl.1 rfl (Nat.le_of_ble_eq_true rfl) ⟨by decide, by decide⟩ dX11_quietMinutes_52 (fun H locs S => ?_)
      exact x_iretX C S hr (by decide) (by decide) h dX11_quietMinutes_55
    · have h := it_n c5 h
      refine lv_aload_n hx hb dX11_quietMinutes_23 rfl (lv_at hl 0 rfl) ?_
      have hR8 : Ok 194 (R x0 5) 3 := hSh x0 11 5 3 hx0.1 rfl
      refine x_getR C S KX11 hx0 5 (by decide) rfl rfl fl_RX11_47 hR8 dX11_quietMinutes_24 ?_
      refine lv_aload_n hx hb dX11_quietMinutes_27 rfl (lv_at hl 1 rfl) ?_
      have hR9 : Ok 194 (R x2 0) 10004 := hSh x2 4 0 10004 hx2.1 rfl
      refine x_getR C S KX4 hx2 0 (by decide) rfl rfl fl_RX11_212 hR9 dX11_quietMinutes_28 ?_
      refine lv_iload_n hx hb dX11_quietMinutes_31 rfl (lv_at hl 2 rfl) ?_
      obtain ⟨hi10, h⟩ := ck_el h
      refine x_iald (len := 4) C S (by decide) hR9 hi10 dX11_quietMinutes_32 ?_
      refine lv_aload_n hx hb dX11_quietMinutes_33 rfl (lv_at hl 1 rfl) ?_
      have hR11 : Ok 194 (R x2 1) 10004 := hSh x2 4 1 10004 hx2.1 rfl
      refine x_getR C S KX4 hx2 1 (by decide) rfl rfl fl_RX11_215 hR11 dX11_quietMinutes_34 ?_
      refine lv_iload_n hx hb dX11_quietMinutes_37 rfl (lv_at hl 2 rfl) ?_
      obtain ⟨hi12, h⟩ := ck_el h
      refine x_iald (len := 4) C S (by decide) hR11 hi12 dX11_quietMinutes_38 ?_
      obtain ⟨a13, σ13, hc13, h⟩ := bd_el h
      refine x_callVV C S KX3 hR8 (ok_X3_add (L := L) hc13 hSh hR8) ⟨cd_X3_add, ni_RX3, ml_RX11_218, in_X3_add, sl_X3_add⟩ ⟨by decide, by decide⟩ rfl (rm_ok (by decide) (by decide)) hl.1 rfl (Nat.le_of_ble_eq_true rfl) ⟨by decide, by decide⟩ dX11_quietMinutes_39 (fun H locs S => ?_)
      refine lv_iinc (v := x3 + 1) (lv' := [(3, .int (x3 + 1)), (0, .ref (gb g + x0)), (2, .ref (gb g + x2))]) hx hb dX11_quietMinutes_42 hl (k := 2) rfl rfl (by decide) rfl (fun ls hl => ?_)
      refine lv_goto (tgt := 15) hx hb dX11_quietMinutes_45 (by decide) ?_
      exact ih σ13 x0 x2 (x3 + 1) h hx0 hx2 H locs ls S (lv_sub hl [1, 2, 0] rfl)
set_option maxHeartbeats 4000000 in
set_option maxRecDepth 100000 in
theorem ok_X11_quietMinutes {l : Launch} {g : GL} {R : Nat → Nat → Nat} {L : Nat → Nat → Int64} {N : Nat} {σ : SI} {x0 : Nat} {x1 : Int32} {r : ((Int32 ⊕ Nat) × SI)} (h : f_X11_quietMinutes N R σ x0 x1 = some r) (hSh : ShR R) (hx0 : Ok 194 x0 11) : CtX l g 7 yX11_quietMinutes cX11_quietMinutes 4 (some .int) 194 194 1 6 [.ref (gb g + x0), .int x1] (mkS σ R L) (PIX R L r) (PX R L r) := by
  refine vx_ofW (cc := cX11_quietMinutes) (maxL := 4) (ret := (some .int)) (by decide) rfl ?_
  intro p e s m args below meth c s₁ B hml hT hv
  obtain ⟨rfl, hE, hLo, hWd⟩ := hv
  have hr : meth.sig.returnType = (some .int) := B.returns
  have C : Cx l g p s m meth c cX11_quietMinutes 4 RX11 := ⟨B.exec, B.bytes, hml, findClass_of_methodNamed B.named, hE, hLo, B.notSynchronized⟩
  have S : S2 g s σ R L s.heap [] := ⟨hWd, va_S.rf⟩
  have hx := C.1
  have hb := C.2.1
  have hl := lv_entry ([.ref (gb g + x0), .int x1]) (n := 4) (Nat.le_of_ble_eq_true rfl)
  rw [lg_entry_eq]
  generalize (lg_sl ([.ref (gb g + x0), .int x1]) ++ List.replicate (4 - (lg_sl ([.ref (gb g + x0), .int x1])).length) Slot.unset).toArray = ls at hl ⊢
  have hl : lv_has ls 4 [(0, .ref (gb g + x0)), (1, .int x1)] := hl
  generalize hH : s.heap = H at S ⊢
  generalize hlc : ([] : List Loc) = locs at S ⊢
  rw [f_X11_quietMinutes] at h
  refine lv_aload_n hx hb dX11_quietMinutes_0 rfl (lv_at hl 0 rfl) ?_
  refine lv_iload_n hx hb dX11_quietMinutes_1 rfl (lv_at hl 1 rfl) ?_
  rcases bdX_el h with ⟨a2, σ2, hc2, h⟩ | ⟨q2, σ2, hc2, hr2⟩
  · refine x_callXR C S KX11 hx0 (ok_X11_neighbourAt (L := L) hc2 hSh hx0) ⟨cd_X11_neighbourAt, ni_RX11, ml_RX11_156, in_X11_neighbourAt, sl_X11_neighbourAt⟩ ⟨by decide, by decide⟩ rfl (rm_ok (by decide) (by decide)) hl.1 rfl (Nat.le_of_ble_eq_true rfl) ⟨by decide, by decide⟩ dX11_quietMinutes_2 hT ⟨by decide, by decide⟩ (fun H locs ho2 S => ?_)
    refine lv_astore_n (lv' := [(2, .ref (gb g + a2)), (0, .ref (gb g + x0)), (1, .int x1)]) hx hb dX11_quietMinutes_5 rfl hl (by decide) rfl (fun ls hl => ?_)
    refine lv_aload_n hx hb dX11_quietMinutes_6 rfl (lv_at hl 1 rfl) ?_
    have hR3 : Ok 194 (R x0 5) 3 := hSh x0 11 5 3 hx0.1 rfl
    refine x_getR C S KX11 hx0 5 (by decide) rfl rfl fl_RX11_47 hR3 dX11_quietMinutes_7 ?_
    obtain ⟨a4, σ4, hc4, h⟩ := bd_el h
    refine x_callVV C S KX3 hR3 (ok_X3_clear (L := L) hc4 hSh hR3) ⟨cd_X3_clear, ni_RX3, ml_RX11_208, in_X3_clear, sl_X3_clear⟩ ⟨by decide, by decide⟩ rfl (rm_ok (by decide) (by decide)) hl.1 rfl (Nat.le_of_ble_eq_true rfl) ⟨by decide, by decide⟩ dX11_quietMinutes_10 (fun H locs S => ?_)
    refine lv_iconst (v := (0 : Int32)) hx hb dX11_quietMinutes_13 (by decide) ?_
    refine lv_istore_n (lv' := [(3, .int (0 : Int32)), (2, .ref (gb g + a2)), (0, .ref (gb g + x0)), (1, .int x1)]) hx hb dX11_quietMinutes_14 rfl hl (by decide) rfl (fun ls hl => ?_)
    exact w_X11_quietMinutes_15 C hr hT hSh N σ4 x0 a2 (0 : Int32) h hx0 ho2 H locs ls S (lv_sub hl [2, 1, 0] rfl)
  · exact x_callXX C S KX11 hx0 (ok_X11_neighbourAt (L := L) hc2 hSh hx0) n_PRX ⟨cd_X11_neighbourAt, ni_RX11, ml_RX11_156, in_X11_neighbourAt, sl_X11_neighbourAt⟩ ⟨by decide, by decide⟩ rfl (rm_ok (by decide) (by decide)) hl.1 rfl (Nat.le_of_ble_eq_true rfl) ⟨by decide, by decide⟩ dX11_quietMinutes_2 hT ⟨by decide, by decide⟩ hr2
theorem dX11_reason_0 : decode cX11_reason 0 = .ok (.aload_n 0, 1) := by decide +kernel
theorem dX11_reason_1 : decode cX11_reason 1 = .ok (.iload_n 1, 1) := by decide +kernel
theorem dX11_reason_2 : decode cX11_reason 2 = .ok (.invokevirtual 225, 3) := by decide +kernel
theorem dX11_reason_5 : decode cX11_reason 5 = .ok (.aload_n 0, 1) := by decide +kernel
theorem dX11_reason_6 : decode cX11_reason 6 = .ok (.iload_n 2, 1) := by decide +kernel
theorem dX11_reason_7 : decode cX11_reason 7 = .ok (.iconst 0, 1) := by decide +kernel
theorem dX11_reason_8 : decode cX11_reason 8 = .ok (.sipush 1439, 3) := by decide +kernel
theorem dX11_reason_11 : decode cX11_reason 11 = .ok (.invokevirtual 176, 3) := by decide +kernel
theorem dX11_reason_14 : decode cX11_reason 14 = .ok (.aload_n 0, 1) := by decide +kernel
theorem dX11_reason_15 : decode cX11_reason 15 = .ok (.getfield 61, 3) := by decide +kernel
theorem dX11_reason_18 : decode cX11_reason 18 = .ok (.iload_n 1, 1) := by decide +kernel
theorem dX11_reason_19 : decode cX11_reason 19 = .ok (.iload_n 2, 1) := by decide +kernel
theorem dX11_reason_20 : decode cX11_reason 20 = .ok (.aload_n 0, 1) := by decide +kernel
theorem dX11_reason_21 : decode cX11_reason 21 = .ok (.getfield 61, 3) := by decide +kernel
theorem dX11_reason_24 : decode cX11_reason 24 = .ok (.getfield 228, 3) := by decide +kernel
theorem dX11_reason_27 : decode cX11_reason 27 = .ok (.invokevirtual 235, 3) := by decide +kernel
theorem dX11_reason_30 : decode cX11_reason 30 = .ok (.ireturn, 1) := by decide +kernel
def f_X11_reason (N : Nat) (R : Nat → Nat → Nat) (σ : SI) (x0 : Nat) (x1 : Int32) (x2 : Int32) : Option ((Int32 ⊕ Nat) × SI) := bdX (f_X11_needBlast N R σ x0 x1) (fun _ σ2 => bdX (f_X11_needRange N R σ2 x0 x2 (0 : Int32) (1439 : Int32)) (fun _ σ4 => bd (f_X9_reasonAgainst N R σ4 (R x0 8) x1 x2 (R (R x0 8) 6)) (fun a8 σ8 => some (.inl a8, σ8))))
set_option maxHeartbeats 4000000 in
set_option maxRecDepth 100000 in
theorem ok_X11_reason {l : Launch} {g : GL} {R : Nat → Nat → Nat} {L : Nat → Nat → Int64} {N : Nat} {σ : SI} {x0 : Nat} {x1 : Int32} {x2 : Int32} {r : ((Int32 ⊕ Nat) × SI)} (h : f_X11_reason N R σ x0 x1 x2 = some r) (hSh : ShR R) (hx0 : Ok 194 x0 11) : CtX l g 7 yX11_reason cX11_reason 3 (some .int) 194 194 2 12 [.ref (gb g + x0), .int x1, .int x2] (mkS σ R L) (PIX R L r) (PX R L r) := by
  refine vx_ofW (cc := cX11_reason) (maxL := 3) (ret := (some .int)) (by decide) rfl ?_
  intro p e s m args below meth c s₁ B hml hT hv
  obtain ⟨rfl, hE, hLo, hWd⟩ := hv
  have hr : meth.sig.returnType = (some .int) := B.returns
  have C : Cx l g p s m meth c cX11_reason 3 RX11 := ⟨B.exec, B.bytes, hml, findClass_of_methodNamed B.named, hE, hLo, B.notSynchronized⟩
  have S : S2 g s σ R L s.heap [] := ⟨hWd, va_S.rf⟩
  have hx := C.1
  have hb := C.2.1
  have hl := lv_entry ([.ref (gb g + x0), .int x1, .int x2]) (n := 3) (Nat.le_of_ble_eq_true rfl)
  rw [lg_entry_eq]
  generalize (lg_sl ([.ref (gb g + x0), .int x1, .int x2]) ++ List.replicate (3 - (lg_sl ([.ref (gb g + x0), .int x1, .int x2])).length) Slot.unset).toArray = ls at hl ⊢
  have hl : lv_has ls 3 [(0, .ref (gb g + x0)), (1, .int x1), (2, .int x2)] := hl
  generalize hH : s.heap = H at S ⊢
  generalize hlc : ([] : List Loc) = locs at S ⊢
  rw [f_X11_reason] at h
  refine lv_aload_n hx hb dX11_reason_0 rfl (lv_at hl 0 rfl) ?_
  refine lv_iload_n hx hb dX11_reason_1 rfl (lv_at hl 1 rfl) ?_
  rcases bdX_el h with ⟨a2, σ2, hc2, h⟩ | ⟨q2, σ2, hc2, hr2⟩
  · refine x_callXV C S KX11 hx0 (ok_X11_needBlast (L := L) hc2 hSh hx0) ⟨cd_X11_needBlast, ni_RX11, ml_RX11_225, in_X11_needBlast, sl_X11_needBlast⟩ ⟨by decide, by decide⟩ rfl (rm_ok (by decide) (by decide)) hl.1 rfl (Nat.le_of_ble_eq_true rfl) ⟨by decide, by decide⟩ dX11_reason_2 hT ⟨by decide, by decide⟩ (fun H locs S => ?_)
    refine lv_aload_n hx hb dX11_reason_5 rfl (lv_at hl 0 rfl) ?_
    refine lv_iload_n hx hb dX11_reason_6 rfl (lv_at hl 2 rfl) ?_
    refine lv_iconst (v := (0 : Int32)) hx hb dX11_reason_7 (by decide) ?_
    refine lv_sipush (v := (1439 : Int32)) hx hb dX11_reason_8 (by decide) ?_
    rcases bdX_el h with ⟨a4, σ4, hc4, h⟩ | ⟨q4, σ4, hc4, hr4⟩
    · refine x_callXV C S KX11 hx0 (ok_X11_needRange (L := L) hc4 hSh hx0) ⟨cd_X11_needRange, ni_RX11, ml_RX11_176, in_X11_needRange, sl_X11_needRange⟩ ⟨by decide, by decide⟩ rfl (rm_ok (by decide) (by decide)) hl.1 rfl (Nat.le_of_ble_eq_true rfl) ⟨by decide, by decide⟩ dX11_reason_11 hT ⟨by decide, by decide⟩ (fun H locs S => ?_)
      refine lv_aload_n hx hb dX11_reason_14 rfl (lv_at hl 0 rfl) ?_
      have hR5 : Ok 194 (R x0 8) 9 := hSh x0 11 8 9 hx0.1 rfl
      refine x_getR C S KX11 hx0 8 (by decide) rfl rfl fl_RX11_61 hR5 dX11_reason_15 ?_
      refine lv_iload_n hx hb dX11_reason_18 rfl (lv_at hl 1 rfl) ?_
      refine lv_iload_n hx hb dX11_reason_19 rfl (lv_at hl 2 rfl) ?_
      refine lv_aload_n hx hb dX11_reason_20 rfl (lv_at hl 0 rfl) ?_
      have hR6 : Ok 194 (R x0 8) 9 := hSh x0 11 8 9 hx0.1 rfl
      refine x_getR C S KX11 hx0 8 (by decide) rfl rfl fl_RX11_61 hR6 dX11_reason_21 ?_
      have hR7 : Ok 194 (R (R x0 8) 6) 10006 := hSh (R x0 8) 9 6 10006 hR6.1 rfl
      refine x_getR C S KX9 hR6 6 (by decide) rfl rfl fl_RX11_228 hR7 dX11_reason_24 ?_
      obtain ⟨a8, σ8, hc8, h⟩ := bd_el h
      refine x_callVI C S KX9 hR5 (ok_X9_reasonAgainst (L := L) hc8 hSh hR5 hR7) ⟨cd_X9_reasonAgainst, ni_RX9, ml_RX11_235, in_X9_reasonAgainst, sl_X9_reasonAgainst⟩ ⟨by decide, by decide⟩ rfl (rm_ok (by decide) (by decide)) hl.1 rfl (Nat.le_of_ble_eq_true rfl) ⟨by decide, by decide⟩ dX11_reason_27 (fun H locs S => ?_)
      exact x_iretX C S hr (by decide) (by decide) h dX11_reason_30
    · exact x_callXX C S KX11 hx0 (ok_X11_needRange (L := L) hc4 hSh hx0) n_PVX ⟨cd_X11_needRange, ni_RX11, ml_RX11_176, in_X11_needRange, sl_X11_needRange⟩ ⟨by decide, by decide⟩ rfl (rm_ok (by decide) (by decide)) hl.1 rfl (Nat.le_of_ble_eq_true rfl) ⟨by decide, by decide⟩ dX11_reason_11 hT ⟨by decide, by decide⟩ hr4
  · exact x_callXX C S KX11 hx0 (ok_X11_needBlast (L := L) hc2 hSh hx0) n_PVX ⟨cd_X11_needBlast, ni_RX11, ml_RX11_225, in_X11_needBlast, sl_X11_needBlast⟩ ⟨by decide, by decide⟩ rfl (rm_ok (by decide) (by decide)) hl.1 rfl (Nat.le_of_ble_eq_true rfl) ⟨by decide, by decide⟩ dX11_reason_2 hT ⟨by decide, by decide⟩ hr2
theorem dX11_cancel_0 : decode cX11_cancel 0 = .ok (.aload_n 0, 1) := by decide +kernel
theorem dX11_cancel_1 : decode cX11_cancel 1 = .ok (.iload_n 1, 1) := by decide +kernel
theorem dX11_cancel_2 : decode cX11_cancel 2 = .ok (.invokevirtual 225, 3) := by decide +kernel
theorem dX11_cancel_5 : decode cX11_cancel 5 = .ok (.aload_n 0, 1) := by decide +kernel
theorem dX11_cancel_6 : decode cX11_cancel 6 = .ok (.iload_n 1, 1) := by decide +kernel
theorem dX11_cancel_7 : decode cX11_cancel 7 = .ok (.invokevirtual 265, 3) := by decide +kernel
theorem dX11_cancel_10 : decode cX11_cancel 10 = .ok (.aload_n 0, 1) := by decide +kernel
theorem dX11_cancel_11 : decode cX11_cancel 11 = .ok (.getfield 61, 3) := by decide +kernel
theorem dX11_cancel_14 : decode cX11_cancel 14 = .ok (.getfield 228, 3) := by decide +kernel
theorem dX11_cancel_17 : decode cX11_cancel 17 = .ok (.iload_n 1, 1) := by decide +kernel
theorem dX11_cancel_18 : decode cX11_cancel 18 = .ok (.iaload, 1) := by decide +kernel
theorem dX11_cancel_19 : decode cX11_cancel 19 = .ok (.istore_n 2, 1) := by decide +kernel
theorem dX11_cancel_20 : decode cX11_cancel 20 = .ok (.aload_n 0, 1) := by decide +kernel
theorem dX11_cancel_21 : decode cX11_cancel 21 = .ok (.invokevirtual 262, 3) := by decide +kernel
theorem dX11_cancel_24 : decode cX11_cancel 24 = .ok (.aload_n 0, 1) := by decide +kernel
theorem dX11_cancel_25 : decode cX11_cancel 25 = .ok (.getfield 61, 3) := by decide +kernel
theorem dX11_cancel_28 : decode cX11_cancel 28 = .ok (.getfield 228, 3) := by decide +kernel
theorem dX11_cancel_31 : decode cX11_cancel 31 = .ok (.iload_n 1, 1) := by decide +kernel
theorem dX11_cancel_32 : decode cX11_cancel 32 = .ok (.iconst (-1), 1) := by decide +kernel
theorem dX11_cancel_33 : decode cX11_cancel 33 = .ok (.iastore, 1) := by decide +kernel
theorem dX11_cancel_34 : decode cX11_cancel 34 = .ok (.iload_n 2, 1) := by decide +kernel
theorem dX11_cancel_35 : decode cX11_cancel 35 = .ok (.ireturn, 1) := by decide +kernel
def f_X11_cancel (N : Nat) (R : Nat → Nat → Nat) (σ : SI) (x0 : Nat) (x1 : Int32) : Option ((Int32 ⊕ Nat) × SI) := bdX (f_X11_needBlast N R σ x0 x1) (fun _ σ2 => bdX (f_X11_needScheduled N R σ2 x0 x1) (fun _ σ4 => ck x1 6 (bd (f_X11_recordAction N R σ4 x0) (fun _ σ8 => ck x1 6 (sq (up σ8 (R (R x0 8) 6) x1.toNatClampNeg (-1 : Int32)) (fun σ12 => some (.inl (σ4 (R (R x0 8) 6) x1.toNatClampNeg), σ12)))))))
set_option maxHeartbeats 4000000 in
set_option maxRecDepth 100000 in
theorem ok_X11_cancel {l : Launch} {g : GL} {R : Nat → Nat → Nat} {L : Nat → Nat → Int64} {N : Nat} {σ : SI} {x0 : Nat} {x1 : Int32} {r : ((Int32 ⊕ Nat) × SI)} (h : f_X11_cancel N R σ x0 x1 = some r) (hSh : ShR R) (hx0 : Ok 194 x0 11) : CtX l g 7 yX11_cancel cX11_cancel 3 (some .int) 194 194 2 12 [.ref (gb g + x0), .int x1] (mkS σ R L) (PIX R L r) (PX R L r) := by
  refine vx_ofW (cc := cX11_cancel) (maxL := 3) (ret := (some .int)) (by decide) rfl ?_
  intro p e s m args below meth c s₁ B hml hT hv
  obtain ⟨rfl, hE, hLo, hWd⟩ := hv
  have hr : meth.sig.returnType = (some .int) := B.returns
  have C : Cx l g p s m meth c cX11_cancel 3 RX11 := ⟨B.exec, B.bytes, hml, findClass_of_methodNamed B.named, hE, hLo, B.notSynchronized⟩
  have S : S2 g s σ R L s.heap [] := ⟨hWd, va_S.rf⟩
  have hx := C.1
  have hb := C.2.1
  have hl := lv_entry ([.ref (gb g + x0), .int x1]) (n := 3) (Nat.le_of_ble_eq_true rfl)
  rw [lg_entry_eq]
  generalize (lg_sl ([.ref (gb g + x0), .int x1]) ++ List.replicate (3 - (lg_sl ([.ref (gb g + x0), .int x1])).length) Slot.unset).toArray = ls at hl ⊢
  have hl : lv_has ls 3 [(0, .ref (gb g + x0)), (1, .int x1)] := hl
  generalize hH : s.heap = H at S ⊢
  generalize hlc : ([] : List Loc) = locs at S ⊢
  rw [f_X11_cancel] at h
  refine lv_aload_n hx hb dX11_cancel_0 rfl (lv_at hl 0 rfl) ?_
  refine lv_iload_n hx hb dX11_cancel_1 rfl (lv_at hl 1 rfl) ?_
  rcases bdX_el h with ⟨a2, σ2, hc2, h⟩ | ⟨q2, σ2, hc2, hr2⟩
  · refine x_callXV C S KX11 hx0 (ok_X11_needBlast (L := L) hc2 hSh hx0) ⟨cd_X11_needBlast, ni_RX11, ml_RX11_225, in_X11_needBlast, sl_X11_needBlast⟩ ⟨by decide, by decide⟩ rfl (rm_ok (by decide) (by decide)) hl.1 rfl (Nat.le_of_ble_eq_true rfl) ⟨by decide, by decide⟩ dX11_cancel_2 hT ⟨by decide, by decide⟩ (fun H locs S => ?_)
    refine lv_aload_n hx hb dX11_cancel_5 rfl (lv_at hl 0 rfl) ?_
    refine lv_iload_n hx hb dX11_cancel_6 rfl (lv_at hl 1 rfl) ?_
    rcases bdX_el h with ⟨a4, σ4, hc4, h⟩ | ⟨q4, σ4, hc4, hr4⟩
    · refine x_callXV C S KX11 hx0 (ok_X11_needScheduled (L := L) hc4 hSh hx0) ⟨cd_X11_needScheduled, ni_RX11, ml_RX11_265, in_X11_needScheduled, sl_X11_needScheduled⟩ ⟨by decide, by decide⟩ rfl (rm_ok (by decide) (by decide)) hl.1 rfl (Nat.le_of_ble_eq_true rfl) ⟨by decide, by decide⟩ dX11_cancel_7 hT ⟨by decide, by decide⟩ (fun H locs S => ?_)
      refine lv_aload_n hx hb dX11_cancel_10 rfl (lv_at hl 0 rfl) ?_
      have hR5 : Ok 194 (R x0 8) 9 := hSh x0 11 8 9 hx0.1 rfl
      refine x_getR C S KX11 hx0 8 (by decide) rfl rfl fl_RX11_61 hR5 dX11_cancel_11 ?_
      have hR6 : Ok 194 (R (R x0 8) 6) 10006 := hSh (R x0 8) 9 6 10006 hR5.1 rfl
      refine x_getR C S KX9 hR5 6 (by decide) rfl rfl fl_RX11_228 hR6 dX11_cancel_14 ?_
      refine lv_iload_n hx hb dX11_cancel_17 rfl (lv_at hl 1 rfl) ?_
      obtain ⟨hi7, h⟩ := ck_el h
      refine x_iald (len := 6) C S (by decide) hR6 hi7 dX11_cancel_18 ?_
      refine lv_istore_n (lv' := [(2, .int (σ4 (R (R x0 8) 6) x1.toNatClampNeg)), (0, .ref (gb g + x0)), (1, .int x1)]) hx hb dX11_cancel_19 rfl hl (by decide) rfl (fun ls hl => ?_)
      refine lv_aload_n hx hb dX11_cancel_20 rfl (lv_at hl 1 rfl) ?_
      obtain ⟨a8, σ8, hc8, h⟩ := bd_el h
      refine x_callVV C S KX11 hx0 (ok_X11_recordAction (L := L) hc8 hSh hx0) ⟨cd_X11_recordAction, ni_RX11, ml_RX11_262, in_X11_recordAction, sl_X11_recordAction⟩ ⟨by decide, by decide⟩ rfl (rm_ok (by decide) (by decide)) hl.1 rfl (Nat.le_of_ble_eq_true rfl) ⟨by decide, by decide⟩ dX11_cancel_21 (fun H locs S => ?_)
      refine lv_aload_n hx hb dX11_cancel_24 rfl (lv_at hl 1 rfl) ?_
      have hR9 : Ok 194 (R x0 8) 9 := hSh x0 11 8 9 hx0.1 rfl
      refine x_getR C S KX11 hx0 8 (by decide) rfl rfl fl_RX11_61 hR9 dX11_cancel_25 ?_
      have hR10 : Ok 194 (R (R x0 8) 6) 10006 := hSh (R x0 8) 9 6 10006 hR9.1 rfl
      refine x_getR C S KX9 hR9 6 (by decide) rfl rfl fl_RX11_228 hR10 dX11_cancel_28 ?_
      refine lv_iload_n hx hb dX11_cancel_31 rfl (lv_at hl 2 rfl) ?_
      refine lv_iconst (v := (-1 : Int32)) hx hb dX11_cancel_32 (by decide) ?_
      obtain ⟨hi11, h⟩ := ck_el h
      obtain ⟨σ12, hs12, h⟩ := sq_el h
      refine x_iast (len := 6) C S (by decide) hR10 hi11 dX11_cancel_33 hs12 (fun H locs S => ?_)
      refine lv_iload_n hx hb dX11_cancel_34 rfl (lv_at hl 0 rfl) ?_
      exact x_iretX C S hr (by decide) (by decide) h dX11_cancel_35
    · exact x_callXX C S KX11 hx0 (ok_X11_needScheduled (L := L) hc4 hSh hx0) n_PVX ⟨cd_X11_needScheduled, ni_RX11, ml_RX11_265, in_X11_needScheduled, sl_X11_needScheduled⟩ ⟨by decide, by decide⟩ rfl (rm_ok (by decide) (by decide)) hl.1 rfl (Nat.le_of_ble_eq_true rfl) ⟨by decide, by decide⟩ dX11_cancel_7 hT ⟨by decide, by decide⟩ hr4
  · exact x_callXX C S KX11 hx0 (ok_X11_needBlast (L := L) hc2 hSh hx0) n_PVX ⟨cd_X11_needBlast, ni_RX11, ml_RX11_225, in_X11_needBlast, sl_X11_needBlast⟩ ⟨by decide, by decide⟩ rfl (rm_ok (by decide) (by decide)) hl.1 rfl (Nat.le_of_ble_eq_true rfl) ⟨by decide, by decide⟩ dX11_cancel_2 hT ⟨by decide, by decide⟩ hr2
theorem dX11_fire_0 : decode cX11_fire 0 = .ok (.aload_n 0, 1) := by decide +kernel
theorem dX11_fire_1 : decode cX11_fire 1 = .ok (.iload_n 1, 1) := by decide +kernel
theorem dX11_fire_2 : decode cX11_fire 2 = .ok (.invokevirtual 125, 3) := by decide +kernel
theorem dX11_fire_5 : decode cX11_fire 5 = .ok (.astore_n 2, 1) := by decide +kernel
theorem dX11_fire_6 : decode cX11_fire 6 = .ok (.aload_n 0, 1) := by decide +kernel
theorem dX11_fire_7 : decode cX11_fire 7 = .ok (.iload_n 1, 1) := by decide +kernel
theorem dX11_fire_8 : decode cX11_fire 8 = .ok (.invokevirtual 265, 3) := by decide +kernel
theorem dX11_fire_11 : decode cX11_fire 11 = .ok (.aload_n 0, 1) := by decide +kernel
theorem dX11_fire_12 : decode cX11_fire 12 = .ok (.getfield 61, 3) := by decide +kernel
theorem dX11_fire_15 : decode cX11_fire 15 = .ok (.iconst 0, 1) := by decide +kernel
theorem dX11_fire_16 : decode cX11_fire 16 = .ok (.invokevirtual 254, 3) := by decide +kernel
theorem dX11_fire_19 : decode cX11_fire 19 = .ok (.iload_n 1, 1) := by decide +kernel
theorem dX11_fire_20 : decode cX11_fire 20 = .ok (.if_icmp .eq 14, 3) := by decide +kernel
theorem dX11_fire_23 : decode cX11_fire 23 = .ok (.new 257, 3) := by decide +kernel
theorem dX11_fire_26 : decode cX11_fire 26 = .ok (.dup, 1) := by decide +kernel
theorem dX11_fire_27 : decode cX11_fire 27 = .ok (.ldc_w 268, 3) := by decide +kernel
theorem dX11_fire_30 : decode cX11_fire 30 = .ok (.invokespecial 261, 3) := by decide +kernel
theorem dX11_fire_33 : decode cX11_fire 33 = .ok (.athrow, 1) := by decide +kernel
theorem dX11_fire_34 : decode cX11_fire 34 = .ok (.aload_n 0, 1) := by decide +kernel
theorem dX11_fire_35 : decode cX11_fire 35 = .ok (.invokevirtual 262, 3) := by decide +kernel
theorem dX11_fire_38 : decode cX11_fire 38 = .ok (.aload_n 2, 1) := by decide +kernel
theorem dX11_fire_39 : decode cX11_fire 39 = .ok (.iconst 1, 1) := by decide +kernel
theorem dX11_fire_40 : decode cX11_fire 40 = .ok (.putfield 231, 3) := by decide +kernel
theorem dX11_fire_43 : decode cX11_fire 43 = .ok (.aload_n 0, 1) := by decide +kernel
theorem dX11_fire_44 : decode cX11_fire 44 = .ok (.getfield 61, 3) := by decide +kernel
theorem dX11_fire_47 : decode cX11_fire 47 = .ok (.getfield 228, 3) := by decide +kernel
theorem dX11_fire_50 : decode cX11_fire 50 = .ok (.iload_n 1, 1) := by decide +kernel
theorem dX11_fire_51 : decode cX11_fire 51 = .ok (.iaload, 1) := by decide +kernel
theorem dX11_fire_52 : decode cX11_fire 52 = .ok (.ireturn, 1) := by decide +kernel
def f_X11_fire (N : Nat) (R : Nat → Nat → Nat) (σ : SI) (x0 : Nat) (x1 : Int32) : Option ((Int32 ⊕ Nat) × SI) := bdX (f_X11_blastAt N R σ x0 x1) (fun a2 σ2 => bdX (f_X11_needScheduled N R σ2 x0 x1) (fun _ σ4 => bd (f_X9_firstScheduled N R σ4 (R x0 8) (0 : Int32)) (fun a6 σ6 => if a6 = x1 then (bd (f_X11_recordAction N R σ6 x0) (fun _ σ8 => sq (up σ8 a2 13 (1 : Int32)) (fun σ9 => ck x1 6 (some (.inl (σ9 (R (R x0 8) 6) x1.toNatClampNeg), σ9))))) else (some (.inr 2, σ6)))))
set_option maxHeartbeats 4000000 in
set_option maxRecDepth 100000 in
theorem ok_X11_fire {l : Launch} {g : GL} {R : Nat → Nat → Nat} {L : Nat → Nat → Int64} {N : Nat} {σ : SI} {x0 : Nat} {x1 : Int32} {r : ((Int32 ⊕ Nat) × SI)} (h : f_X11_fire N R σ x0 x1 = some r) (hSh : ShR R) (hx0 : Ok 194 x0 11) : CtX l g 8 yX11_fire cX11_fire 3 (some .int) 194 194 3 18 [.ref (gb g + x0), .int x1] (mkS σ R L) (PIX R L r) (PX R L r) := by
  refine vx_ofW (cc := cX11_fire) (maxL := 3) (ret := (some .int)) (by decide) rfl ?_
  intro p e s m args below meth c s₁ B hml hT hv
  obtain ⟨rfl, hE, hLo, hWd⟩ := hv
  have hr : meth.sig.returnType = (some .int) := B.returns
  have C : Cx l g p s m meth c cX11_fire 3 RX11 := ⟨B.exec, B.bytes, hml, findClass_of_methodNamed B.named, hE, hLo, B.notSynchronized⟩
  have S : S2 g s σ R L s.heap [] := ⟨hWd, va_S.rf⟩
  have hx := C.1
  have hb := C.2.1
  have hl := lv_entry ([.ref (gb g + x0), .int x1]) (n := 3) (Nat.le_of_ble_eq_true rfl)
  rw [lg_entry_eq]
  generalize (lg_sl ([.ref (gb g + x0), .int x1]) ++ List.replicate (3 - (lg_sl ([.ref (gb g + x0), .int x1])).length) Slot.unset).toArray = ls at hl ⊢
  have hl : lv_has ls 3 [(0, .ref (gb g + x0)), (1, .int x1)] := hl
  generalize hH : s.heap = H at S ⊢
  generalize hlc : ([] : List Loc) = locs at S ⊢
  rw [f_X11_fire] at h
  refine lv_aload_n hx hb dX11_fire_0 rfl (lv_at hl 0 rfl) ?_
  refine lv_iload_n hx hb dX11_fire_1 rfl (lv_at hl 1 rfl) ?_
  rcases bdX_el h with ⟨a2, σ2, hc2, h⟩ | ⟨q2, σ2, hc2, hr2⟩
  · refine x_callXR C S KX11 hx0 (ok_X11_blastAt (L := L) hc2 hSh hx0) ⟨cd_X11_blastAt, ni_RX11, ml_RX11_125, in_X11_blastAt, sl_X11_blastAt⟩ ⟨by decide, by decide⟩ rfl (rm_ok (by decide) (by decide)) hl.1 rfl (Nat.le_of_ble_eq_true rfl) ⟨by decide, by decide⟩ dX11_fire_2 hT ⟨by decide, by decide⟩ (fun H locs ho2 S => ?_)
    refine lv_astore_n (lv' := [(2, .ref (gb g + a2)), (0, .ref (gb g + x0)), (1, .int x1)]) hx hb dX11_fire_5 rfl hl (by decide) rfl (fun ls hl => ?_)
    refine lv_aload_n hx hb dX11_fire_6 rfl (lv_at hl 1 rfl) ?_
    refine lv_iload_n hx hb dX11_fire_7 rfl (lv_at hl 2 rfl) ?_
    rcases bdX_el h with ⟨a4, σ4, hc4, h⟩ | ⟨q4, σ4, hc4, hr4⟩
    · refine x_callXV C S KX11 hx0 (ok_X11_needScheduled (L := L) hc4 hSh hx0) ⟨cd_X11_needScheduled, ni_RX11, ml_RX11_265, in_X11_needScheduled, sl_X11_needScheduled⟩ ⟨by decide, by decide⟩ rfl (rm_ok (by decide) (by decide)) hl.1 rfl (Nat.le_of_ble_eq_true rfl) ⟨by decide, by decide⟩ dX11_fire_8 hT ⟨by decide, by decide⟩ (fun H locs S => ?_)
      refine lv_aload_n hx hb dX11_fire_11 rfl (lv_at hl 1 rfl) ?_
      have hR5 : Ok 194 (R x0 8) 9 := hSh x0 11 8 9 hx0.1 rfl
      refine x_getR C S KX11 hx0 8 (by decide) rfl rfl fl_RX11_61 hR5 dX11_fire_12 ?_
      refine lv_iconst (v := (0 : Int32)) hx hb dX11_fire_15 (by decide) ?_
      obtain ⟨a6, σ6, hc6, h⟩ := bd_el h
      refine x_callVI C S KX9 hR5 (ok_X9_firstScheduled (L := L) hc6 hSh hR5) ⟨cd_X9_firstScheduled, ni_RX9, ml_RX11_254, in_X9_firstScheduled, sl_X9_firstScheduled⟩ ⟨by decide, by decide⟩ rfl (rm_ok (by decide) (by decide)) hl.1 rfl (Nat.le_of_ble_eq_true rfl) ⟨by decide, by decide⟩ dX11_fire_16 (fun H locs S => ?_)
      refine lv_iload_n hx hb dX11_fire_19 rfl (lv_at hl 2 rfl) ?_
      refine lv_icmp_eq (tgt := 34) hx hb dX11_fire_20 (by decide) (fun c7 => ?_) (fun c7 => ?_)
      · have h := it_p c7 h
        refine lv_aload_n hx hb dX11_fire_34 rfl (lv_at hl 1 rfl) ?_
        obtain ⟨a8, σ8, hc8, h⟩ := bd_el h
        refine x_callVV C S KX11 hx0 (ok_X11_recordAction (L := L) hc8 hSh hx0) ⟨cd_X11_recordAction, ni_RX11, ml_RX11_262, in_X11_recordAction, sl_X11_recordAction⟩ ⟨by decide, by decide⟩ rfl (rm_ok (by decide) (by decide)) hl.1 rfl (Nat.le_of_ble_eq_true rfl) ⟨by decide, by decide⟩ dX11_fire_35 (fun H locs S => ?_)
        refine lv_aload_n hx hb dX11_fire_38 rfl (lv_at hl 0 rfl) ?_
        refine lv_iconst (v := (1 : Int32)) hx hb dX11_fire_39 (by decide) ?_
        obtain ⟨σ9, hs9, h⟩ := sq_el h
        refine x_putI C S KX0 ho2 13 (by decide) rfl rfl rfl ⟨rfl, rfl⟩ fl_RX11_231 dX11_fire_40 hs9 (fun H locs S => ?_)
        refine lv_aload_n hx hb dX11_fire_43 rfl (lv_at hl 1 rfl) ?_
        have hR10 : Ok 194 (R x0 8) 9 := hSh x0 11 8 9 hx0.1 rfl
        refine x_getR C S KX11 hx0 8 (by decide) rfl rfl fl_RX11_61 hR10 dX11_fire_44 ?_
        have hR11 : Ok 194 (R (R x0 8) 6) 10006 := hSh (R x0 8) 9 6 10006 hR10.1 rfl
        refine x_getR C S KX9 hR10 6 (by decide) rfl rfl fl_RX11_228 hR11 dX11_fire_47 ?_
        refine lv_iload_n hx hb dX11_fire_50 rfl (lv_at hl 2 rfl) ?_
        obtain ⟨hi12, h⟩ := ck_el h
        refine x_iald (len := 6) C S (by decide) hR11 hi12 dX11_fire_51 ?_
        exact x_iretX C S hr (by decide) (by decide) h dX11_fire_52
      · have h := it_n c7 h
        exact x_throwW (q := 2) C S (by decide) cl_RX11_257 ni_ex2 (show (RX11, 268, "another blast is fired before", 21) ∈ strTab by decide) at_RX11_261 hl.1 dX11_fire_23 dX11_fire_26 dX11_fire_27 dX11_fire_30 dX11_fire_33 hT (by decide) (Nat.le_of_ble_eq_true rfl) (by decide) (by decide) (by decide) (by decide) rfl h
    · exact x_callXX C S KX11 hx0 (ok_X11_needScheduled (L := L) hc4 hSh hx0) n_PVX ⟨cd_X11_needScheduled, ni_RX11, ml_RX11_265, in_X11_needScheduled, sl_X11_needScheduled⟩ ⟨by decide, by decide⟩ rfl (rm_ok (by decide) (by decide)) hl.1 rfl (Nat.le_of_ble_eq_true rfl) ⟨by decide, by decide⟩ dX11_fire_8 hT ⟨by decide, by decide⟩ hr4
  · exact x_callXX C S KX11 hx0 (ok_X11_blastAt (L := L) hc2 hSh hx0) n_PRX ⟨cd_X11_blastAt, ni_RX11, ml_RX11_125, in_X11_blastAt, sl_X11_blastAt⟩ ⟨by decide, by decide⟩ rfl (rm_ok (by decide) (by decide)) hl.1 rfl (Nat.le_of_ble_eq_true rfl) ⟨by decide, by decide⟩ dX11_fire_2 hT ⟨by decide, by decide⟩ hr2
theorem dX11_retime_0 : decode cX11_retime 0 = .ok (.aload_n 0, 1) := by decide +kernel
theorem dX11_retime_1 : decode cX11_retime 1 = .ok (.iload_n 1, 1) := by decide +kernel
theorem dX11_retime_2 : decode cX11_retime 2 = .ok (.invokevirtual 125, 3) := by decide +kernel
theorem dX11_retime_5 : decode cX11_retime 5 = .ok (.astore_n 3, 1) := by decide +kernel
theorem dX11_retime_6 : decode cX11_retime 6 = .ok (.aload_n 0, 1) := by decide +kernel
theorem dX11_retime_7 : decode cX11_retime 7 = .ok (.iload_n 2, 1) := by decide +kernel
theorem dX11_retime_8 : decode cX11_retime 8 = .ok (.iconst 0, 1) := by decide +kernel
theorem dX11_retime_9 : decode cX11_retime 9 = .ok (.sipush 800, 3) := by decide +kernel
theorem dX11_retime_12 : decode cX11_retime 12 = .ok (.invokevirtual 176, 3) := by decide +kernel
theorem dX11_retime_15 : decode cX11_retime 15 = .ok (.aload_n 3, 1) := by decide +kernel
theorem dX11_retime_16 : decode cX11_retime 16 = .ok (.getfield 231, 3) := by decide +kernel
theorem dX11_retime_19 : decode cX11_retime 19 = .ok (.ifCond .eq 14, 3) := by decide +kernel
theorem dX11_retime_22 : decode cX11_retime 22 = .ok (.new 257, 3) := by decide +kernel
theorem dX11_retime_25 : decode cX11_retime 25 = .ok (.dup, 1) := by decide +kernel
theorem dX11_retime_26 : decode cX11_retime 26 = .ok (.ldc_w 270, 3) := by decide +kernel
theorem dX11_retime_29 : decode cX11_retime 29 = .ok (.invokespecial 261, 3) := by decide +kernel
theorem dX11_retime_32 : decode cX11_retime 32 = .ok (.athrow, 1) := by decide +kernel
theorem dX11_retime_33 : decode cX11_retime 33 = .ok (.aload_n 0, 1) := by decide +kernel
theorem dX11_retime_34 : decode cX11_retime 34 = .ok (.invokevirtual 262, 3) := by decide +kernel
theorem dX11_retime_37 : decode cX11_retime 37 = .ok (.aload_n 3, 1) := by decide +kernel
theorem dX11_retime_38 : decode cX11_retime 38 = .ok (.iload_n 2, 1) := by decide +kernel
theorem dX11_retime_39 : decode cX11_retime 39 = .ok (.invokevirtual 272, 3) := by decide +kernel
theorem dX11_retime_42 : decode cX11_retime 42 = .ok (.aload_n 0, 1) := by decide +kernel
theorem dX11_retime_43 : decode cX11_retime 43 = .ok (.getfield 61, 3) := by decide +kernel
theorem dX11_retime_46 : decode cX11_retime 46 = .ok (.aload_n 3, 1) := by decide +kernel
theorem dX11_retime_47 : decode cX11_retime 47 = .ok (.invokevirtual 275, 3) := by decide +kernel
theorem dX11_retime_50 : decode cX11_retime 50 = .ok (.aload_n 3, 1) := by decide +kernel
theorem dX11_retime_51 : decode cX11_retime 51 = .ok (.getfield 150, 3) := by decide +kernel
theorem dX11_retime_54 : decode cX11_retime 54 = .ok (.ireturn, 1) := by decide +kernel
def f_X11_retime (N : Nat) (R : Nat → Nat → Nat) (σ : SI) (x0 : Nat) (x1 : Int32) (x2 : Int32) : Option ((Int32 ⊕ Nat) × SI) := bdX (f_X11_blastAt N R σ x0 x1) (fun a2 σ2 => bdX (f_X11_needRange N R σ2 x0 x2 (0 : Int32) (800 : Int32)) (fun _ σ4 => if (σ4 a2 13) = 0 then (bd (f_X11_recordAction N R σ4 x0) (fun _ σ6 => bd (f_X0_spreadDelays N R σ6 a2 x2) (fun _ σ7 => bd (f_X9_weigh N R σ7 (R x0 8) a2) (fun _ σ9 => some (.inl (σ9 a2 8), σ9))))) else (some (.inr 2, σ4))))
set_option maxHeartbeats 4000000 in
set_option maxRecDepth 100000 in
theorem ok_X11_retime {l : Launch} {g : GL} {R : Nat → Nat → Nat} {L : Nat → Nat → Int64} {N : Nat} {σ : SI} {x0 : Nat} {x1 : Int32} {x2 : Int32} {r : ((Int32 ⊕ Nat) × SI)} (h : f_X11_retime N R σ x0 x1 x2 = some r) (hSh : ShR R) (hx0 : Ok 194 x0 11) : CtX l g 8 yX11_retime cX11_retime 4 (some .int) 194 194 3 18 [.ref (gb g + x0), .int x1, .int x2] (mkS σ R L) (PIX R L r) (PX R L r) := by
  refine vx_ofW (cc := cX11_retime) (maxL := 4) (ret := (some .int)) (by decide) rfl ?_
  intro p e s m args below meth c s₁ B hml hT hv
  obtain ⟨rfl, hE, hLo, hWd⟩ := hv
  have hr : meth.sig.returnType = (some .int) := B.returns
  have C : Cx l g p s m meth c cX11_retime 4 RX11 := ⟨B.exec, B.bytes, hml, findClass_of_methodNamed B.named, hE, hLo, B.notSynchronized⟩
  have S : S2 g s σ R L s.heap [] := ⟨hWd, va_S.rf⟩
  have hx := C.1
  have hb := C.2.1
  have hl := lv_entry ([.ref (gb g + x0), .int x1, .int x2]) (n := 4) (Nat.le_of_ble_eq_true rfl)
  rw [lg_entry_eq]
  generalize (lg_sl ([.ref (gb g + x0), .int x1, .int x2]) ++ List.replicate (4 - (lg_sl ([.ref (gb g + x0), .int x1, .int x2])).length) Slot.unset).toArray = ls at hl ⊢
  have hl : lv_has ls 4 [(0, .ref (gb g + x0)), (1, .int x1), (2, .int x2)] := hl
  generalize hH : s.heap = H at S ⊢
  generalize hlc : ([] : List Loc) = locs at S ⊢
  rw [f_X11_retime] at h
  refine lv_aload_n hx hb dX11_retime_0 rfl (lv_at hl 0 rfl) ?_
  refine lv_iload_n hx hb dX11_retime_1 rfl (lv_at hl 1 rfl) ?_
  rcases bdX_el h with ⟨a2, σ2, hc2, h⟩ | ⟨q2, σ2, hc2, hr2⟩
  · refine x_callXR C S KX11 hx0 (ok_X11_blastAt (L := L) hc2 hSh hx0) ⟨cd_X11_blastAt, ni_RX11, ml_RX11_125, in_X11_blastAt, sl_X11_blastAt⟩ ⟨by decide, by decide⟩ rfl (rm_ok (by decide) (by decide)) hl.1 rfl (Nat.le_of_ble_eq_true rfl) ⟨by decide, by decide⟩ dX11_retime_2 hT ⟨by decide, by decide⟩ (fun H locs ho2 S => ?_)
    refine lv_astore_n (lv' := [(3, .ref (gb g + a2)), (0, .ref (gb g + x0)), (1, .int x1), (2, .int x2)]) hx hb dX11_retime_5 rfl hl (by decide) rfl (fun ls hl => ?_)
    refine lv_aload_n hx hb dX11_retime_6 rfl (lv_at hl 1 rfl) ?_
    refine lv_iload_n hx hb dX11_retime_7 rfl (lv_at hl 3 rfl) ?_
    refine lv_iconst (v := (0 : Int32)) hx hb dX11_retime_8 (by decide) ?_
    refine lv_sipush (v := (800 : Int32)) hx hb dX11_retime_9 (by decide) ?_
    rcases bdX_el h with ⟨a4, σ4, hc4, h⟩ | ⟨q4, σ4, hc4, hr4⟩
    · refine x_callXV C S KX11 hx0 (ok_X11_needRange (L := L) hc4 hSh hx0) ⟨cd_X11_needRange, ni_RX11, ml_RX11_176, in_X11_needRange, sl_X11_needRange⟩ ⟨by decide, by decide⟩ rfl (rm_ok (by decide) (by decide)) hl.1 rfl (Nat.le_of_ble_eq_true rfl) ⟨by decide, by decide⟩ dX11_retime_12 hT ⟨by decide, by decide⟩ (fun H locs S => ?_)
      refine lv_aload_n hx hb dX11_retime_15 rfl (lv_at hl 0 rfl) ?_
      refine x_getI C S KX0 ho2 13 (by decide) rfl rfl fl_RX11_231 dX11_retime_16 ?_
      refine lv_if_eq (tgt := 33) hx hb dX11_retime_19 (by decide) (fun c5 => ?_) (fun c5 => ?_)
      · have h := it_p c5 h
        refine lv_aload_n hx hb dX11_retime_33 rfl (lv_at hl 1 rfl) ?_
        obtain ⟨a6, σ6, hc6, h⟩ := bd_el h
        refine x_callVV C S KX11 hx0 (ok_X11_recordAction (L := L) hc6 hSh hx0) ⟨cd_X11_recordAction, ni_RX11, ml_RX11_262, in_X11_recordAction, sl_X11_recordAction⟩ ⟨by decide, by decide⟩ rfl (rm_ok (by decide) (by decide)) hl.1 rfl (Nat.le_of_ble_eq_true rfl) ⟨by decide, by decide⟩ dX11_retime_34 (fun H locs S => ?_)
        refine lv_aload_n hx hb dX11_retime_37 rfl (lv_at hl 0 rfl) ?_
        refine lv_iload_n hx hb dX11_retime_38 rfl (lv_at hl 3 rfl) ?_
        obtain ⟨a7, σ7, hc7, h⟩ := bd_el h
        refine x_callVV C S KX0 ho2 (ok_X0_spreadDelays (L := L) hc7 hSh ho2) ⟨cd_X0_spreadDelays, ni_RX0, ml_RX11_272, in_X0_spreadDelays, sl_X0_spreadDelays⟩ ⟨by decide, by decide⟩ rfl (rm_ok (by decide) (by decide)) hl.1 rfl (Nat.le_of_ble_eq_true rfl) ⟨by decide, by decide⟩ dX11_retime_39 (fun H locs S => ?_)
        refine lv_aload_n hx hb dX11_retime_42 rfl (lv_at hl 1 rfl) ?_
        have hR8 : Ok 194 (R x0 8) 9 := hSh x0 11 8 9 hx0.1 rfl
        refine x_getR C S KX11 hx0 8 (by decide) rfl rfl fl_RX11_61 hR8 dX11_retime_43 ?_
        refine lv_aload_n hx hb dX11_retime_46 rfl (lv_at hl 0 rfl) ?_
        obtain ⟨a9, σ9, hc9, h⟩ := bd_el h
        refine x_callVV C S KX9 hR8 (ok_X9_weigh (L := L) hc9 hSh hR8 ho2) ⟨cd_X9_weigh, ni_RX9, ml_RX11_275, in_X9_weigh, sl_X9_weigh⟩ ⟨by decide, by decide⟩ rfl (rm_ok (by decide) (by decide)) hl.1 rfl (Nat.le_of_ble_eq_true rfl) ⟨by decide, by decide⟩ dX11_retime_47 (fun H locs S => ?_)
        refine lv_aload_n hx hb dX11_retime_50 rfl (lv_at hl 0 rfl) ?_
        refine x_getI C S KX0 ho2 8 (by decide) rfl rfl fl_RX11_150 dX11_retime_51 ?_
        exact x_iretX C S hr (by decide) (by decide) h dX11_retime_54
      · have h := it_n c5 h
        exact x_throwW (q := 2) C S (by decide) cl_RX11_257 ni_ex2 (show (RX11, 270, "the blast is fired", 22) ∈ strTab by decide) at_RX11_261 hl.1 dX11_retime_22 dX11_retime_25 dX11_retime_26 dX11_retime_29 dX11_retime_32 hT (by decide) (Nat.le_of_ble_eq_true rfl) (by decide) (by decide) (by decide) (by decide) rfl h
    · exact x_callXX C S KX11 hx0 (ok_X11_needRange (L := L) hc4 hSh hx0) n_PVX ⟨cd_X11_needRange, ni_RX11, ml_RX11_176, in_X11_needRange, sl_X11_needRange⟩ ⟨by decide, by decide⟩ rfl (rm_ok (by decide) (by decide)) hl.1 rfl (Nat.le_of_ble_eq_true rfl) ⟨by decide, by decide⟩ dX11_retime_12 hT ⟨by decide, by decide⟩ hr4
  · exact x_callXX C S KX11 hx0 (ok_X11_blastAt (L := L) hc2 hSh hx0) n_PRX ⟨cd_X11_blastAt, ni_RX11, ml_RX11_125, in_X11_blastAt, sl_X11_blastAt⟩ ⟨by decide, by decide⟩ rfl (rm_ok (by decide) (by decide)) hl.1 rfl (Nat.le_of_ble_eq_true rfl) ⟨by decide, by decide⟩ dX11_retime_2 hT ⟨by decide, by decide⟩ hr2
theorem dX11_closedMinutes_0 : decode cX11_closedMinutes 0 = .ok (.aload_n 0, 1) := by decide +kernel
theorem dX11_closedMinutes_1 : decode cX11_closedMinutes 1 = .ok (.iload_n 1, 1) := by decide +kernel
theorem dX11_closedMinutes_2 : decode cX11_closedMinutes 2 = .ok (.invokevirtual 180, 3) := by decide +kernel
theorem dX11_closedMinutes_5 : decode cX11_closedMinutes 5 = .ok (.pop, 1) := by decide +kernel
theorem dX11_closedMinutes_6 : decode cX11_closedMinutes 6 = .ok (.aload_n 0, 1) := by decide +kernel
theorem dX11_closedMinutes_7 : decode cX11_closedMinutes 7 = .ok (.getfield 61, 3) := by decide +kernel
theorem dX11_closedMinutes_10 : decode cX11_closedMinutes 10 = .ok (.iload_n 1, 1) := by decide +kernel
theorem dX11_closedMinutes_11 : decode cX11_closedMinutes 11 = .ok (.aload_n 0, 1) := by decide +kernel
theorem dX11_closedMinutes_12 : decode cX11_closedMinutes 12 = .ok (.getfield 47, 3) := by decide +kernel
theorem dX11_closedMinutes_15 : decode cX11_closedMinutes 15 = .ok (.invokevirtual 279, 3) := by decide +kernel
theorem dX11_closedMinutes_18 : decode cX11_closedMinutes 18 = .ok (.aload_n 0, 1) := by decide +kernel
theorem dX11_closedMinutes_19 : decode cX11_closedMinutes 19 = .ok (.getfield 47, 3) := by decide +kernel
theorem dX11_closedMinutes_22 : decode cX11_closedMinutes 22 = .ok (.invokevirtual 222, 3) := by decide +kernel
theorem dX11_closedMinutes_25 : decode cX11_closedMinutes 25 = .ok (.ireturn, 1) := by decide +kernel
def f_X11_closedMinutes (N : Nat) (R : Nat → Nat → Nat) (σ : SI) (x0 : Nat) (x1 : Int32) : Option ((Int32 ⊕ Nat) × SI) := bdX (f_X11_roadAt N R σ x0 x1) (fun a2 σ2 => bd (f_X9_collectClosed N R σ2 (R x0 8) x1 (R x0 5)) (fun _ σ5 => bd (f_X3_size N R σ5 (R x0 5)) (fun a7 σ7 => some (.inl a7, σ7))))
set_option maxHeartbeats 4000000 in
set_option maxRecDepth 100000 in
theorem ok_X11_closedMinutes {l : Launch} {g : GL} {R : Nat → Nat → Nat} {L : Nat → Nat → Int64} {N : Nat} {σ : SI} {x0 : Nat} {x1 : Int32} {r : ((Int32 ⊕ Nat) × SI)} (h : f_X11_closedMinutes N R σ x0 x1 = some r) (hSh : ShR R) (hx0 : Ok 194 x0 11) : CtX l g 7 yX11_closedMinutes cX11_closedMinutes 2 (some .int) 194 194 1 6 [.ref (gb g + x0), .int x1] (mkS σ R L) (PIX R L r) (PX R L r) := by
  refine vx_ofW (cc := cX11_closedMinutes) (maxL := 2) (ret := (some .int)) (by decide) rfl ?_
  intro p e s m args below meth c s₁ B hml hT hv
  obtain ⟨rfl, hE, hLo, hWd⟩ := hv
  have hr : meth.sig.returnType = (some .int) := B.returns
  have C : Cx l g p s m meth c cX11_closedMinutes 2 RX11 := ⟨B.exec, B.bytes, hml, findClass_of_methodNamed B.named, hE, hLo, B.notSynchronized⟩
  have S : S2 g s σ R L s.heap [] := ⟨hWd, va_S.rf⟩
  have hx := C.1
  have hb := C.2.1
  have hl := lv_entry ([.ref (gb g + x0), .int x1]) (n := 2) (Nat.le_of_ble_eq_true rfl)
  rw [lg_entry_eq]
  generalize (lg_sl ([.ref (gb g + x0), .int x1]) ++ List.replicate (2 - (lg_sl ([.ref (gb g + x0), .int x1])).length) Slot.unset).toArray = ls at hl ⊢
  have hl : lv_has ls 2 [(0, .ref (gb g + x0)), (1, .int x1)] := hl
  generalize hH : s.heap = H at S ⊢
  generalize hlc : ([] : List Loc) = locs at S ⊢
  rw [f_X11_closedMinutes] at h
  refine lv_aload_n hx hb dX11_closedMinutes_0 rfl (lv_at hl 0 rfl) ?_
  refine lv_iload_n hx hb dX11_closedMinutes_1 rfl (lv_at hl 1 rfl) ?_
  rcases bdX_el h with ⟨a2, σ2, hc2, h⟩ | ⟨q2, σ2, hc2, hr2⟩
  · refine x_callXR C S KX11 hx0 (ok_X11_roadAt (L := L) hc2 hSh hx0) ⟨cd_X11_roadAt, ni_RX11, ml_RX11_180, in_X11_roadAt, sl_X11_roadAt⟩ ⟨by decide, by decide⟩ rfl (rm_ok (by decide) (by decide)) hl.1 rfl (Nat.le_of_ble_eq_true rfl) ⟨by decide, by decide⟩ dX11_closedMinutes_2 hT ⟨by decide, by decide⟩ (fun H locs ho2 S => ?_)
    refine lv_pop hx hb dX11_closedMinutes_5 rfl ?_
    refine lv_aload_n hx hb dX11_closedMinutes_6 rfl (lv_at hl 0 rfl) ?_
    have hR3 : Ok 194 (R x0 8) 9 := hSh x0 11 8 9 hx0.1 rfl
    refine x_getR C S KX11 hx0 8 (by decide) rfl rfl fl_RX11_61 hR3 dX11_closedMinutes_7 ?_
    refine lv_iload_n hx hb dX11_closedMinutes_10 rfl (lv_at hl 1 rfl) ?_
    refine lv_aload_n hx hb dX11_closedMinutes_11 rfl (lv_at hl 0 rfl) ?_
    have hR4 : Ok 194 (R x0 5) 3 := hSh x0 11 5 3 hx0.1 rfl
    refine x_getR C S KX11 hx0 5 (by decide) rfl rfl fl_RX11_47 hR4 dX11_closedMinutes_12 ?_
    obtain ⟨a5, σ5, hc5, h⟩ := bd_el h
    refine x_callVV C S KX9 hR3 (ok_X9_collectClosed (L := L) hc5 hSh hR3 hR4) ⟨cd_X9_collectClosed, ni_RX9, ml_RX11_279, in_X9_collectClosed, sl_X9_collectClosed⟩ ⟨by decide, by decide⟩ rfl (rm_ok (by decide) (by decide)) hl.1 rfl (Nat.le_of_ble_eq_true rfl) ⟨by decide, by decide⟩ dX11_closedMinutes_15 (fun H locs S => ?_)
    refine lv_aload_n hx hb dX11_closedMinutes_18 rfl (lv_at hl 0 rfl) ?_
    have hR6 : Ok 194 (R x0 5) 3 := hSh x0 11 5 3 hx0.1 rfl
    refine x_getR C S KX11 hx0 5 (by decide) rfl rfl fl_RX11_47 hR6 dX11_closedMinutes_19 ?_
    obtain ⟨a7, σ7, hc7, h⟩ := bd_el h
    refine x_callVI C S KX3 hR6 (ok_X3_size (L := L) hc7 hSh hR6) ⟨cd_X3_size, ni_RX3, ml_RX11_222, in_X3_size, sl_X3_size⟩ ⟨by decide, by decide⟩ rfl (rm_ok (by decide) (by decide)) hl.1 rfl (Nat.le_of_ble_eq_true rfl) ⟨by decide, by decide⟩ dX11_closedMinutes_22 (fun H locs S => ?_)
    exact x_iretX C S hr (by decide) (by decide) h dX11_closedMinutes_25
  · exact x_callXX C S KX11 hx0 (ok_X11_roadAt (L := L) hc2 hSh hx0) n_PRX ⟨cd_X11_roadAt, ni_RX11, ml_RX11_180, in_X11_roadAt, sl_X11_roadAt⟩ ⟨by decide, by decide⟩ rfl (rm_ok (by decide) (by decide)) hl.1 rfl (Nat.le_of_ble_eq_true rfl) ⟨by decide, by decide⟩ dX11_closedMinutes_2 hT ⟨by decide, by decide⟩ hr2
theorem dX11_isClosed_0 : decode cX11_isClosed 0 = .ok (.aload_n 0, 1) := by decide +kernel
theorem dX11_isClosed_1 : decode cX11_isClosed 1 = .ok (.iload_n 1, 1) := by decide +kernel
theorem dX11_isClosed_2 : decode cX11_isClosed 2 = .ok (.invokevirtual 180, 3) := by decide +kernel
theorem dX11_isClosed_5 : decode cX11_isClosed 5 = .ok (.pop, 1) := by decide +kernel
theorem dX11_isClosed_6 : decode cX11_isClosed 6 = .ok (.aload_n 0, 1) := by decide +kernel
theorem dX11_isClosed_7 : decode cX11_isClosed 7 = .ok (.getfield 61, 3) := by decide +kernel
theorem dX11_isClosed_10 : decode cX11_isClosed 10 = .ok (.iload_n 1, 1) := by decide +kernel
theorem dX11_isClosed_11 : decode cX11_isClosed 11 = .ok (.aload_n 0, 1) := by decide +kernel
theorem dX11_isClosed_12 : decode cX11_isClosed 12 = .ok (.getfield 47, 3) := by decide +kernel
theorem dX11_isClosed_15 : decode cX11_isClosed 15 = .ok (.invokevirtual 279, 3) := by decide +kernel
theorem dX11_isClosed_18 : decode cX11_isClosed 18 = .ok (.aload_n 0, 1) := by decide +kernel
theorem dX11_isClosed_19 : decode cX11_isClosed 19 = .ok (.getfield 47, 3) := by decide +kernel
theorem dX11_isClosed_22 : decode cX11_isClosed 22 = .ok (.iload_n 2, 1) := by decide +kernel
theorem dX11_isClosed_23 : decode cX11_isClosed 23 = .ok (.invokevirtual 287, 3) := by decide +kernel
theorem dX11_isClosed_26 : decode cX11_isClosed 26 = .ok (.ireturn, 1) := by decide +kernel
def f_X11_isClosed (N : Nat) (R : Nat → Nat → Nat) (σ : SI) (x0 : Nat) (x1 : Int32) (x2 : Int32) : Option ((Int32 ⊕ Nat) × SI) := bdX (f_X11_roadAt N R σ x0 x1) (fun a2 σ2 => bd (f_X9_collectClosed N R σ2 (R x0 8) x1 (R x0 5)) (fun _ σ5 => bd (f_X3_contains N R σ5 (R x0 5) x2) (fun a7 σ7 => cb a7 (some (.inl a7, σ7)))))
set_option maxHeartbeats 4000000 in
set_option maxRecDepth 100000 in
theorem ok_X11_isClosed {l : Launch} {g : GL} {R : Nat → Nat → Nat} {L : Nat → Nat → Int64} {N : Nat} {σ : SI} {x0 : Nat} {x1 : Int32} {x2 : Int32} {r : ((Int32 ⊕ Nat) × SI)} (h : f_X11_isClosed N R σ x0 x1 x2 = some r) (hSh : ShR R) (hx0 : Ok 194 x0 11) : CtX l g 7 yX11_isClosed cX11_isClosed 3 (some .boolean) 194 194 1 6 [.ref (gb g + x0), .int x1, .int x2] (mkS σ R L) (PIX R L r) (PX R L r) := by
  refine vx_ofW (cc := cX11_isClosed) (maxL := 3) (ret := (some .boolean)) (by decide) rfl ?_
  intro p e s m args below meth c s₁ B hml hT hv
  obtain ⟨rfl, hE, hLo, hWd⟩ := hv
  have hr : meth.sig.returnType = (some .boolean) := B.returns
  have C : Cx l g p s m meth c cX11_isClosed 3 RX11 := ⟨B.exec, B.bytes, hml, findClass_of_methodNamed B.named, hE, hLo, B.notSynchronized⟩
  have S : S2 g s σ R L s.heap [] := ⟨hWd, va_S.rf⟩
  have hx := C.1
  have hb := C.2.1
  have hl := lv_entry ([.ref (gb g + x0), .int x1, .int x2]) (n := 3) (Nat.le_of_ble_eq_true rfl)
  rw [lg_entry_eq]
  generalize (lg_sl ([.ref (gb g + x0), .int x1, .int x2]) ++ List.replicate (3 - (lg_sl ([.ref (gb g + x0), .int x1, .int x2])).length) Slot.unset).toArray = ls at hl ⊢
  have hl : lv_has ls 3 [(0, .ref (gb g + x0)), (1, .int x1), (2, .int x2)] := hl
  generalize hH : s.heap = H at S ⊢
  generalize hlc : ([] : List Loc) = locs at S ⊢
  rw [f_X11_isClosed] at h
  refine lv_aload_n hx hb dX11_isClosed_0 rfl (lv_at hl 0 rfl) ?_
  refine lv_iload_n hx hb dX11_isClosed_1 rfl (lv_at hl 1 rfl) ?_
  rcases bdX_el h with ⟨a2, σ2, hc2, h⟩ | ⟨q2, σ2, hc2, hr2⟩
  · refine x_callXR C S KX11 hx0 (ok_X11_roadAt (L := L) hc2 hSh hx0) ⟨cd_X11_roadAt, ni_RX11, ml_RX11_180, in_X11_roadAt, sl_X11_roadAt⟩ ⟨by decide, by decide⟩ rfl (rm_ok (by decide) (by decide)) hl.1 rfl (Nat.le_of_ble_eq_true rfl) ⟨by decide, by decide⟩ dX11_isClosed_2 hT ⟨by decide, by decide⟩ (fun H locs ho2 S => ?_)
    refine lv_pop hx hb dX11_isClosed_5 rfl ?_
    refine lv_aload_n hx hb dX11_isClosed_6 rfl (lv_at hl 0 rfl) ?_
    have hR3 : Ok 194 (R x0 8) 9 := hSh x0 11 8 9 hx0.1 rfl
    refine x_getR C S KX11 hx0 8 (by decide) rfl rfl fl_RX11_61 hR3 dX11_isClosed_7 ?_
    refine lv_iload_n hx hb dX11_isClosed_10 rfl (lv_at hl 1 rfl) ?_
    refine lv_aload_n hx hb dX11_isClosed_11 rfl (lv_at hl 0 rfl) ?_
    have hR4 : Ok 194 (R x0 5) 3 := hSh x0 11 5 3 hx0.1 rfl
    refine x_getR C S KX11 hx0 5 (by decide) rfl rfl fl_RX11_47 hR4 dX11_isClosed_12 ?_
    obtain ⟨a5, σ5, hc5, h⟩ := bd_el h
    refine x_callVV C S KX9 hR3 (ok_X9_collectClosed (L := L) hc5 hSh hR3 hR4) ⟨cd_X9_collectClosed, ni_RX9, ml_RX11_279, in_X9_collectClosed, sl_X9_collectClosed⟩ ⟨by decide, by decide⟩ rfl (rm_ok (by decide) (by decide)) hl.1 rfl (Nat.le_of_ble_eq_true rfl) ⟨by decide, by decide⟩ dX11_isClosed_15 (fun H locs S => ?_)
    refine lv_aload_n hx hb dX11_isClosed_18 rfl (lv_at hl 0 rfl) ?_
    have hR6 : Ok 194 (R x0 5) 3 := hSh x0 11 5 3 hx0.1 rfl
    refine x_getR C S KX11 hx0 5 (by decide) rfl rfl fl_RX11_47 hR6 dX11_isClosed_19 ?_
    refine lv_iload_n hx hb dX11_isClosed_22 rfl (lv_at hl 2 rfl) ?_
    obtain ⟨a7, σ7, hc7, h⟩ := bd_el h
    refine x_callVI C S KX3 hR6 (ok_X3_contains (L := L) hc7 hSh hR6) ⟨cd_X3_contains, ni_RX3, ml_RX11_287, in_X3_contains, sl_X3_contains⟩ ⟨by decide, by decide⟩ rfl (rm_ok (by decide) (by decide)) hl.1 rfl (Nat.le_of_ble_eq_true rfl) ⟨by decide, by decide⟩ dX11_isClosed_23 (fun H locs S => ?_)
    obtain ⟨hb8, h⟩ := cb_el h
    exact x_zretX C S hr (by decide) (by decide) hb8 h dX11_isClosed_26
  · exact x_callXX C S KX11 hx0 (ok_X11_roadAt (L := L) hc2 hSh hx0) n_PRX ⟨cd_X11_roadAt, ni_RX11, ml_RX11_180, in_X11_roadAt, sl_X11_roadAt⟩ ⟨by decide, by decide⟩ rfl (rm_ok (by decide) (by decide)) hl.1 rfl (Nat.le_of_ble_eq_true rfl) ⟨by decide, by decide⟩ dX11_isClosed_2 hT ⟨by decide, by decide⟩ hr2
theorem dX11_closures_0 : decode cX11_closures 0 = .ok (.aload_n 0, 1) := by decide +kernel
theorem dX11_closures_1 : decode cX11_closures 1 = .ok (.iload_n 1, 1) := by decide +kernel
theorem dX11_closures_2 : decode cX11_closures 2 = .ok (.invokevirtual 180, 3) := by decide +kernel
theorem dX11_closures_5 : decode cX11_closures 5 = .ok (.pop, 1) := by decide +kernel
theorem dX11_closures_6 : decode cX11_closures 6 = .ok (.aload_n 0, 1) := by decide +kernel
theorem dX11_closures_7 : decode cX11_closures 7 = .ok (.getfield 61, 3) := by decide +kernel
theorem dX11_closures_10 : decode cX11_closures 10 = .ok (.iload_n 1, 1) := by decide +kernel
theorem dX11_closures_11 : decode cX11_closures 11 = .ok (.aload_n 0, 1) := by decide +kernel
theorem dX11_closures_12 : decode cX11_closures 12 = .ok (.getfield 47, 3) := by decide +kernel
theorem dX11_closures_15 : decode cX11_closures 15 = .ok (.invokevirtual 279, 3) := by decide +kernel
theorem dX11_closures_18 : decode cX11_closures 18 = .ok (.aload_n 0, 1) := by decide +kernel
theorem dX11_closures_19 : decode cX11_closures 19 = .ok (.getfield 47, 3) := by decide +kernel
theorem dX11_closures_22 : decode cX11_closures 22 = .ok (.getfield 290, 3) := by decide +kernel
theorem dX11_closures_25 : decode cX11_closures 25 = .ok (.ireturn, 1) := by decide +kernel
def f_X11_closures (N : Nat) (R : Nat → Nat → Nat) (σ : SI) (x0 : Nat) (x1 : Int32) : Option ((Int32 ⊕ Nat) × SI) := bdX (f_X11_roadAt N R σ x0 x1) (fun a2 σ2 => bd (f_X9_collectClosed N R σ2 (R x0 8) x1 (R x0 5)) (fun _ σ5 => some (.inl (σ5 (R x0 5) 2), σ5)))
set_option maxHeartbeats 4000000 in
set_option maxRecDepth 100000 in
theorem ok_X11_closures {l : Launch} {g : GL} {R : Nat → Nat → Nat} {L : Nat → Nat → Int64} {N : Nat} {σ : SI} {x0 : Nat} {x1 : Int32} {r : ((Int32 ⊕ Nat) × SI)} (h : f_X11_closures N R σ x0 x1 = some r) (hSh : ShR R) (hx0 : Ok 194 x0 11) : CtX l g 7 yX11_closures cX11_closures 2 (some .int) 194 194 1 6 [.ref (gb g + x0), .int x1] (mkS σ R L) (PIX R L r) (PX R L r) := by
  refine vx_ofW (cc := cX11_closures) (maxL := 2) (ret := (some .int)) (by decide) rfl ?_
  intro p e s m args below meth c s₁ B hml hT hv
  obtain ⟨rfl, hE, hLo, hWd⟩ := hv
  have hr : meth.sig.returnType = (some .int) := B.returns
  have C : Cx l g p s m meth c cX11_closures 2 RX11 := ⟨B.exec, B.bytes, hml, findClass_of_methodNamed B.named, hE, hLo, B.notSynchronized⟩
  have S : S2 g s σ R L s.heap [] := ⟨hWd, va_S.rf⟩
  have hx := C.1
  have hb := C.2.1
  have hl := lv_entry ([.ref (gb g + x0), .int x1]) (n := 2) (Nat.le_of_ble_eq_true rfl)
  rw [lg_entry_eq]
  generalize (lg_sl ([.ref (gb g + x0), .int x1]) ++ List.replicate (2 - (lg_sl ([.ref (gb g + x0), .int x1])).length) Slot.unset).toArray = ls at hl ⊢
  have hl : lv_has ls 2 [(0, .ref (gb g + x0)), (1, .int x1)] := hl
  generalize hH : s.heap = H at S ⊢
  generalize hlc : ([] : List Loc) = locs at S ⊢
  rw [f_X11_closures] at h
  refine lv_aload_n hx hb dX11_closures_0 rfl (lv_at hl 0 rfl) ?_
  refine lv_iload_n hx hb dX11_closures_1 rfl (lv_at hl 1 rfl) ?_
  rcases bdX_el h with ⟨a2, σ2, hc2, h⟩ | ⟨q2, σ2, hc2, hr2⟩
  · refine x_callXR C S KX11 hx0 (ok_X11_roadAt (L := L) hc2 hSh hx0) ⟨cd_X11_roadAt, ni_RX11, ml_RX11_180, in_X11_roadAt, sl_X11_roadAt⟩ ⟨by decide, by decide⟩ rfl (rm_ok (by decide) (by decide)) hl.1 rfl (Nat.le_of_ble_eq_true rfl) ⟨by decide, by decide⟩ dX11_closures_2 hT ⟨by decide, by decide⟩ (fun H locs ho2 S => ?_)
    refine lv_pop hx hb dX11_closures_5 rfl ?_
    refine lv_aload_n hx hb dX11_closures_6 rfl (lv_at hl 0 rfl) ?_
    have hR3 : Ok 194 (R x0 8) 9 := hSh x0 11 8 9 hx0.1 rfl
    refine x_getR C S KX11 hx0 8 (by decide) rfl rfl fl_RX11_61 hR3 dX11_closures_7 ?_
    refine lv_iload_n hx hb dX11_closures_10 rfl (lv_at hl 1 rfl) ?_
    refine lv_aload_n hx hb dX11_closures_11 rfl (lv_at hl 0 rfl) ?_
    have hR4 : Ok 194 (R x0 5) 3 := hSh x0 11 5 3 hx0.1 rfl
    refine x_getR C S KX11 hx0 5 (by decide) rfl rfl fl_RX11_47 hR4 dX11_closures_12 ?_
    obtain ⟨a5, σ5, hc5, h⟩ := bd_el h
    refine x_callVV C S KX9 hR3 (ok_X9_collectClosed (L := L) hc5 hSh hR3 hR4) ⟨cd_X9_collectClosed, ni_RX9, ml_RX11_279, in_X9_collectClosed, sl_X9_collectClosed⟩ ⟨by decide, by decide⟩ rfl (rm_ok (by decide) (by decide)) hl.1 rfl (Nat.le_of_ble_eq_true rfl) ⟨by decide, by decide⟩ dX11_closures_15 (fun H locs S => ?_)
    refine lv_aload_n hx hb dX11_closures_18 rfl (lv_at hl 0 rfl) ?_
    have hR6 : Ok 194 (R x0 5) 3 := hSh x0 11 5 3 hx0.1 rfl
    refine x_getR C S KX11 hx0 5 (by decide) rfl rfl fl_RX11_47 hR6 dX11_closures_19 ?_
    refine x_getI C S KX3 hR6 2 (by decide) rfl rfl fl_RX11_290 dX11_closures_22 ?_
    exact x_iretX C S hr (by decide) (by decide) h dX11_closures_25
  · exact x_callXX C S KX11 hx0 (ok_X11_roadAt (L := L) hc2 hSh hx0) n_PRX ⟨cd_X11_roadAt, ni_RX11, ml_RX11_180, in_X11_roadAt, sl_X11_roadAt⟩ ⟨by decide, by decide⟩ rfl (rm_ok (by decide) (by decide)) hl.1 rfl (Nat.le_of_ble_eq_true rfl) ⟨by decide, by decide⟩ dX11_closures_2 hT ⟨by decide, by decide⟩ hr2
theorem dX11_closureStart_0 : decode cX11_closureStart 0 = .ok (.aload_n 0, 1) := by decide +kernel
theorem dX11_closureStart_1 : decode cX11_closureStart 1 = .ok (.iload_n 1, 1) := by decide +kernel
theorem dX11_closureStart_2 : decode cX11_closureStart 2 = .ok (.invokevirtual 180, 3) := by decide +kernel
theorem dX11_closureStart_5 : decode cX11_closureStart 5 = .ok (.pop, 1) := by decide +kernel
theorem dX11_closureStart_6 : decode cX11_closureStart 6 = .ok (.aload_n 0, 1) := by decide +kernel
theorem dX11_closureStart_7 : decode cX11_closureStart 7 = .ok (.getfield 61, 3) := by decide +kernel
theorem dX11_closureStart_10 : decode cX11_closureStart 10 = .ok (.iload_n 1, 1) := by decide +kernel
theorem dX11_closureStart_11 : decode cX11_closureStart 11 = .ok (.aload_n 0, 1) := by decide +kernel
theorem dX11_closureStart_12 : decode cX11_closureStart 12 = .ok (.getfield 47, 3) := by decide +kernel
theorem dX11_closureStart_15 : decode cX11_closureStart 15 = .ok (.invokevirtual 279, 3) := by decide +kernel
theorem dX11_closureStart_18 : decode cX11_closureStart 18 = .ok (.iload_n 2, 1) := by decide +kernel
theorem dX11_closureStart_19 : decode cX11_closureStart 19 = .ok (.ifCond .lt 26, 3) := by decide +kernel
theorem dX11_closureStart_22 : decode cX11_closureStart 22 = .ok (.iload_n 2, 1) := by decide +kernel
theorem dX11_closureStart_23 : decode cX11_closureStart 23 = .ok (.aload_n 0, 1) := by decide +kernel
theorem dX11_closureStart_24 : decode cX11_closureStart 24 = .ok (.getfield 47, 3) := by decide +kernel
theorem dX11_closureStart_27 : decode cX11_closureStart 27 = .ok (.getfield 290, 3) := by decide +kernel
theorem dX11_closureStart_30 : decode cX11_closureStart 30 = .ok (.if_icmp .ge 15, 3) := by decide +kernel
theorem dX11_closureStart_33 : decode cX11_closureStart 33 = .ok (.aload_n 0, 1) := by decide +kernel
theorem dX11_closureStart_34 : decode cX11_closureStart 34 = .ok (.getfield 47, 3) := by decide +kernel
theorem dX11_closureStart_37 : decode cX11_closureStart 37 = .ok (.getfield 293, 3) := by decide +kernel
theorem dX11_closureStart_40 : decode cX11_closureStart 40 = .ok (.iload_n 2, 1) := by decide +kernel
theorem dX11_closureStart_41 : decode cX11_closureStart 41 = .ok (.iaload, 1) := by decide +kernel
theorem dX11_closureStart_42 : decode cX11_closureStart 42 = .ok (.goto 4, 3) := by decide +kernel
theorem dX11_closureStart_45 : decode cX11_closureStart 45 = .ok (.iconst (-1), 1) := by decide +kernel
theorem dX11_closureStart_46 : decode cX11_closureStart 46 = .ok (.ireturn, 1) := by decide +kernel
def f_X11_closureStart (N : Nat) (R : Nat → Nat → Nat) (σ : SI) (x0 : Nat) (x1 : Int32) (x2 : Int32) : Option ((Int32 ⊕ Nat) × SI) := bdX (f_X11_roadAt N R σ x0 x1) (fun a2 σ2 => bd (f_X9_collectClosed N R σ2 (R x0 8) x1 (R x0 5)) (fun _ σ5 => if x2 < 0 then (some (.inl (-1 : Int32), σ5)) else (if (σ5 (R x0 5) 2) ≤ x2 then (some (.inl (-1 : Int32), σ5)) else (ck x2 8 (some (.inl (σ5 (R (R x0 5) 0) x2.toNatClampNeg), σ5))))))
set_option maxHeartbeats 4000000 in
set_option maxRecDepth 100000 in
theorem ok_X11_closureStart {l : Launch} {g : GL} {R : Nat → Nat → Nat} {L : Nat → Nat → Int64} {N : Nat} {σ : SI} {x0 : Nat} {x1 : Int32} {x2 : Int32} {r : ((Int32 ⊕ Nat) × SI)} (h : f_X11_closureStart N R σ x0 x1 x2 = some r) (hSh : ShR R) (hx0 : Ok 194 x0 11) : CtX l g 7 yX11_closureStart cX11_closureStart 3 (some .int) 194 194 1 6 [.ref (gb g + x0), .int x1, .int x2] (mkS σ R L) (PIX R L r) (PX R L r) := by
  refine vx_ofW (cc := cX11_closureStart) (maxL := 3) (ret := (some .int)) (by decide) rfl ?_
  intro p e s m args below meth c s₁ B hml hT hv
  obtain ⟨rfl, hE, hLo, hWd⟩ := hv
  have hr : meth.sig.returnType = (some .int) := B.returns
  have C : Cx l g p s m meth c cX11_closureStart 3 RX11 := ⟨B.exec, B.bytes, hml, findClass_of_methodNamed B.named, hE, hLo, B.notSynchronized⟩
  have S : S2 g s σ R L s.heap [] := ⟨hWd, va_S.rf⟩
  have hx := C.1
  have hb := C.2.1
  have hl := lv_entry ([.ref (gb g + x0), .int x1, .int x2]) (n := 3) (Nat.le_of_ble_eq_true rfl)
  rw [lg_entry_eq]
  generalize (lg_sl ([.ref (gb g + x0), .int x1, .int x2]) ++ List.replicate (3 - (lg_sl ([.ref (gb g + x0), .int x1, .int x2])).length) Slot.unset).toArray = ls at hl ⊢
  have hl : lv_has ls 3 [(0, .ref (gb g + x0)), (1, .int x1), (2, .int x2)] := hl
  generalize hH : s.heap = H at S ⊢
  generalize hlc : ([] : List Loc) = locs at S ⊢
  rw [f_X11_closureStart] at h
  refine lv_aload_n hx hb dX11_closureStart_0 rfl (lv_at hl 0 rfl) ?_
  refine lv_iload_n hx hb dX11_closureStart_1 rfl (lv_at hl 1 rfl) ?_
  rcases bdX_el h with ⟨a2, σ2, hc2, h⟩ | ⟨q2, σ2, hc2, hr2⟩
  · refine x_callXR C S KX11 hx0 (ok_X11_roadAt (L := L) hc2 hSh hx0) ⟨cd_X11_roadAt, ni_RX11, ml_RX11_180, in_X11_roadAt, sl_X11_roadAt⟩ ⟨by decide, by decide⟩ rfl (rm_ok (by decide) (by decide)) hl.1 rfl (Nat.le_of_ble_eq_true rfl) ⟨by decide, by decide⟩ dX11_closureStart_2 hT ⟨by decide, by decide⟩ (fun H locs ho2 S => ?_)
    refine lv_pop hx hb dX11_closureStart_5 rfl ?_
    refine lv_aload_n hx hb dX11_closureStart_6 rfl (lv_at hl 0 rfl) ?_
    have hR3 : Ok 194 (R x0 8) 9 := hSh x0 11 8 9 hx0.1 rfl
    refine x_getR C S KX11 hx0 8 (by decide) rfl rfl fl_RX11_61 hR3 dX11_closureStart_7 ?_
    refine lv_iload_n hx hb dX11_closureStart_10 rfl (lv_at hl 1 rfl) ?_
    refine lv_aload_n hx hb dX11_closureStart_11 rfl (lv_at hl 0 rfl) ?_
    have hR4 : Ok 194 (R x0 5) 3 := hSh x0 11 5 3 hx0.1 rfl
    refine x_getR C S KX11 hx0 5 (by decide) rfl rfl fl_RX11_47 hR4 dX11_closureStart_12 ?_
    obtain ⟨a5, σ5, hc5, h⟩ := bd_el h
    refine x_callVV C S KX9 hR3 (ok_X9_collectClosed (L := L) hc5 hSh hR3 hR4) ⟨cd_X9_collectClosed, ni_RX9, ml_RX11_279, in_X9_collectClosed, sl_X9_collectClosed⟩ ⟨by decide, by decide⟩ rfl (rm_ok (by decide) (by decide)) hl.1 rfl (Nat.le_of_ble_eq_true rfl) ⟨by decide, by decide⟩ dX11_closureStart_15 (fun H locs S => ?_)
    refine lv_iload_n hx hb dX11_closureStart_18 rfl (lv_at hl 2 rfl) ?_
    refine lv_if_lt (tgt := 45) hx hb dX11_closureStart_19 (by decide) (fun c6 => ?_) (fun c6 => ?_)
    · have h := it_p c6 h
      refine lv_iconst (v := (-1 : Int32)) hx hb dX11_closureStart_45 (by decide) ?_
      exact x_iretX C S hr (by decide) (by decide) h dX11_closureStart_46
    · have h := it_n c6 h
      refine lv_iload_n hx hb dX11_closureStart_22 rfl (lv_at hl 2 rfl) ?_
      refine lv_aload_n hx hb dX11_closureStart_23 rfl (lv_at hl 0 rfl) ?_
      have hR7 : Ok 194 (R x0 5) 3 := hSh x0 11 5 3 hx0.1 rfl
      refine x_getR C S KX11 hx0 5 (by decide) rfl rfl fl_RX11_47 hR7 dX11_closureStart_24 ?_
      refine x_getI C S KX3 hR7 2 (by decide) rfl rfl fl_RX11_290 dX11_closureStart_27 ?_
      refine lv_icmp_ge (tgt := 45) hx hb dX11_closureStart_30 (by decide) (fun c8 => ?_) (fun c8 => ?_)
      · have h := it_p c8 h
        refine lv_iconst (v := (-1 : Int32)) hx hb dX11_closureStart_45 (by decide) ?_
        exact x_iretX C S hr (by decide) (by decide) h dX11_closureStart_46
      · have h := it_n c8 h
        refine lv_aload_n hx hb dX11_closureStart_33 rfl (lv_at hl 0 rfl) ?_
        have hR9 : Ok 194 (R x0 5) 3 := hSh x0 11 5 3 hx0.1 rfl
        refine x_getR C S KX11 hx0 5 (by decide) rfl rfl fl_RX11_47 hR9 dX11_closureStart_34 ?_
        have hR10 : Ok 194 (R (R x0 5) 0) 10008 := hSh (R x0 5) 3 0 10008 hR9.1 rfl
        refine x_getR C S KX3 hR9 0 (by decide) rfl rfl fl_RX11_293 hR10 dX11_closureStart_37 ?_
        refine lv_iload_n hx hb dX11_closureStart_40 rfl (lv_at hl 2 rfl) ?_
        obtain ⟨hi11, h⟩ := ck_el h
        refine x_iald (len := 8) C S (by decide) hR10 hi11 dX11_closureStart_41 ?_
        refine lv_goto (tgt := 46) hx hb dX11_closureStart_42 (by decide) ?_
        exact x_iretX C S hr (by decide) (by decide) h dX11_closureStart_46
  · exact x_callXX C S KX11 hx0 (ok_X11_roadAt (L := L) hc2 hSh hx0) n_PRX ⟨cd_X11_roadAt, ni_RX11, ml_RX11_180, in_X11_roadAt, sl_X11_roadAt⟩ ⟨by decide, by decide⟩ rfl (rm_ok (by decide) (by decide)) hl.1 rfl (Nat.le_of_ble_eq_true rfl) ⟨by decide, by decide⟩ dX11_closureStart_2 hT ⟨by decide, by decide⟩ hr2
theorem dX11_closureLength_0 : decode cX11_closureLength 0 = .ok (.aload_n 0, 1) := by decide +kernel
theorem dX11_closureLength_1 : decode cX11_closureLength 1 = .ok (.iload_n 1, 1) := by decide +kernel
theorem dX11_closureLength_2 : decode cX11_closureLength 2 = .ok (.invokevirtual 180, 3) := by decide +kernel
theorem dX11_closureLength_5 : decode cX11_closureLength 5 = .ok (.pop, 1) := by decide +kernel
theorem dX11_closureLength_6 : decode cX11_closureLength 6 = .ok (.aload_n 0, 1) := by decide +kernel
theorem dX11_closureLength_7 : decode cX11_closureLength 7 = .ok (.getfield 61, 3) := by decide +kernel
theorem dX11_closureLength_10 : decode cX11_closureLength 10 = .ok (.iload_n 1, 1) := by decide +kernel
theorem dX11_closureLength_11 : decode cX11_closureLength 11 = .ok (.aload_n 0, 1) := by decide +kernel
theorem dX11_closureLength_12 : decode cX11_closureLength 12 = .ok (.getfield 47, 3) := by decide +kernel
theorem dX11_closureLength_15 : decode cX11_closureLength 15 = .ok (.invokevirtual 279, 3) := by decide +kernel
theorem dX11_closureLength_18 : decode cX11_closureLength 18 = .ok (.iload_n 2, 1) := by decide +kernel
theorem dX11_closureLength_19 : decode cX11_closureLength 19 = .ok (.ifCond .lt 36, 3) := by decide +kernel
theorem dX11_closureLength_22 : decode cX11_closureLength 22 = .ok (.iload_n 2, 1) := by decide +kernel
theorem dX11_closureLength_23 : decode cX11_closureLength 23 = .ok (.aload_n 0, 1) := by decide +kernel
theorem dX11_closureLength_24 : decode cX11_closureLength 24 = .ok (.getfield 47, 3) := by decide +kernel
theorem dX11_closureLength_27 : decode cX11_closureLength 27 = .ok (.getfield 290, 3) := by decide +kernel
theorem dX11_closureLength_30 : decode cX11_closureLength 30 = .ok (.if_icmp .ge 25, 3) := by decide +kernel
theorem dX11_closureLength_33 : decode cX11_closureLength 33 = .ok (.aload_n 0, 1) := by decide +kernel
theorem dX11_closureLength_34 : decode cX11_closureLength 34 = .ok (.getfield 47, 3) := by decide +kernel
theorem dX11_closureLength_37 : decode cX11_closureLength 37 = .ok (.getfield 296, 3) := by decide +kernel
theorem dX11_closureLength_40 : decode cX11_closureLength 40 = .ok (.iload_n 2, 1) := by decide +kernel
theorem dX11_closureLength_41 : decode cX11_closureLength 41 = .ok (.iaload, 1) := by decide +kernel
theorem dX11_closureLength_42 : decode cX11_closureLength 42 = .ok (.aload_n 0, 1) := by decide +kernel
theorem dX11_closureLength_43 : decode cX11_closureLength 43 = .ok (.getfield 47, 3) := by decide +kernel
theorem dX11_closureLength_46 : decode cX11_closureLength 46 = .ok (.getfield 293, 3) := by decide +kernel
theorem dX11_closureLength_49 : decode cX11_closureLength 49 = .ok (.iload_n 2, 1) := by decide +kernel
theorem dX11_closureLength_50 : decode cX11_closureLength 50 = .ok (.iaload, 1) := by decide +kernel
theorem dX11_closureLength_51 : decode cX11_closureLength 51 = .ok (.isub, 1) := by decide +kernel
theorem dX11_closureLength_52 : decode cX11_closureLength 52 = .ok (.goto 4, 3) := by decide +kernel
theorem dX11_closureLength_55 : decode cX11_closureLength 55 = .ok (.iconst (-1), 1) := by decide +kernel
theorem dX11_closureLength_56 : decode cX11_closureLength 56 = .ok (.ireturn, 1) := by decide +kernel
def f_X11_closureLength (N : Nat) (R : Nat → Nat → Nat) (σ : SI) (x0 : Nat) (x1 : Int32) (x2 : Int32) : Option ((Int32 ⊕ Nat) × SI) := bdX (f_X11_roadAt N R σ x0 x1) (fun a2 σ2 => bd (f_X9_collectClosed N R σ2 (R x0 8) x1 (R x0 5)) (fun _ σ5 => if x2 < 0 then (some (.inl (-1 : Int32), σ5)) else (if (σ5 (R x0 5) 2) ≤ x2 then (some (.inl (-1 : Int32), σ5)) else (ck x2 8 (ck x2 8 (some (.inl ((σ5 (R (R x0 5) 1) x2.toNatClampNeg) - (σ5 (R (R x0 5) 0) x2.toNatClampNeg)), σ5)))))))
set_option maxHeartbeats 4000000 in
set_option maxRecDepth 100000 in
theorem ok_X11_closureLength {l : Launch} {g : GL} {R : Nat → Nat → Nat} {L : Nat → Nat → Int64} {N : Nat} {σ : SI} {x0 : Nat} {x1 : Int32} {x2 : Int32} {r : ((Int32 ⊕ Nat) × SI)} (h : f_X11_closureLength N R σ x0 x1 x2 = some r) (hSh : ShR R) (hx0 : Ok 194 x0 11) : CtX l g 7 yX11_closureLength cX11_closureLength 3 (some .int) 194 194 1 6 [.ref (gb g + x0), .int x1, .int x2] (mkS σ R L) (PIX R L r) (PX R L r) := by
  refine vx_ofW (cc := cX11_closureLength) (maxL := 3) (ret := (some .int)) (by decide) rfl ?_
  intro p e s m args below meth c s₁ B hml hT hv
  obtain ⟨rfl, hE, hLo, hWd⟩ := hv
  have hr : meth.sig.returnType = (some .int) := B.returns
  have C : Cx l g p s m meth c cX11_closureLength 3 RX11 := ⟨B.exec, B.bytes, hml, findClass_of_methodNamed B.named, hE, hLo, B.notSynchronized⟩
  have S : S2 g s σ R L s.heap [] := ⟨hWd, va_S.rf⟩
  have hx := C.1
  have hb := C.2.1
  have hl := lv_entry ([.ref (gb g + x0), .int x1, .int x2]) (n := 3) (Nat.le_of_ble_eq_true rfl)
  rw [lg_entry_eq]
  generalize (lg_sl ([.ref (gb g + x0), .int x1, .int x2]) ++ List.replicate (3 - (lg_sl ([.ref (gb g + x0), .int x1, .int x2])).length) Slot.unset).toArray = ls at hl ⊢
  have hl : lv_has ls 3 [(0, .ref (gb g + x0)), (1, .int x1), (2, .int x2)] := hl
  generalize hH : s.heap = H at S ⊢
  generalize hlc : ([] : List Loc) = locs at S ⊢
  rw [f_X11_closureLength] at h
  refine lv_aload_n hx hb dX11_closureLength_0 rfl (lv_at hl 0 rfl) ?_
  refine lv_iload_n hx hb dX11_closureLength_1 rfl (lv_at hl 1 rfl) ?_
  rcases bdX_el h with ⟨a2, σ2, hc2, h⟩ | ⟨q2, σ2, hc2, hr2⟩
  · refine x_callXR C S KX11 hx0 (ok_X11_roadAt (L := L) hc2 hSh hx0) ⟨cd_X11_roadAt, ni_RX11, ml_RX11_180, in_X11_roadAt, sl_X11_roadAt⟩ ⟨by decide, by decide⟩ rfl (rm_ok (by decide) (by decide)) hl.1 rfl (Nat.le_of_ble_eq_true rfl) ⟨by decide, by decide⟩ dX11_closureLength_2 hT ⟨by decide, by decide⟩ (fun H locs ho2 S => ?_)
    refine lv_pop hx hb dX11_closureLength_5 rfl ?_
    refine lv_aload_n hx hb dX11_closureLength_6 rfl (lv_at hl 0 rfl) ?_
    have hR3 : Ok 194 (R x0 8) 9 := hSh x0 11 8 9 hx0.1 rfl
    refine x_getR C S KX11 hx0 8 (by decide) rfl rfl fl_RX11_61 hR3 dX11_closureLength_7 ?_
    refine lv_iload_n hx hb dX11_closureLength_10 rfl (lv_at hl 1 rfl) ?_
    refine lv_aload_n hx hb dX11_closureLength_11 rfl (lv_at hl 0 rfl) ?_
    have hR4 : Ok 194 (R x0 5) 3 := hSh x0 11 5 3 hx0.1 rfl
    refine x_getR C S KX11 hx0 5 (by decide) rfl rfl fl_RX11_47 hR4 dX11_closureLength_12 ?_
    obtain ⟨a5, σ5, hc5, h⟩ := bd_el h
    refine x_callVV C S KX9 hR3 (ok_X9_collectClosed (L := L) hc5 hSh hR3 hR4) ⟨cd_X9_collectClosed, ni_RX9, ml_RX11_279, in_X9_collectClosed, sl_X9_collectClosed⟩ ⟨by decide, by decide⟩ rfl (rm_ok (by decide) (by decide)) hl.1 rfl (Nat.le_of_ble_eq_true rfl) ⟨by decide, by decide⟩ dX11_closureLength_15 (fun H locs S => ?_)
    refine lv_iload_n hx hb dX11_closureLength_18 rfl (lv_at hl 2 rfl) ?_
    refine lv_if_lt (tgt := 55) hx hb dX11_closureLength_19 (by decide) (fun c6 => ?_) (fun c6 => ?_)
    · have h := it_p c6 h
      refine lv_iconst (v := (-1 : Int32)) hx hb dX11_closureLength_55 (by decide) ?_
      exact x_iretX C S hr (by decide) (by decide) h dX11_closureLength_56
    · have h := it_n c6 h
      refine lv_iload_n hx hb dX11_closureLength_22 rfl (lv_at hl 2 rfl) ?_
      refine lv_aload_n hx hb dX11_closureLength_23 rfl (lv_at hl 0 rfl) ?_
      have hR7 : Ok 194 (R x0 5) 3 := hSh x0 11 5 3 hx0.1 rfl
      refine x_getR C S KX11 hx0 5 (by decide) rfl rfl fl_RX11_47 hR7 dX11_closureLength_24 ?_
      refine x_getI C S KX3 hR7 2 (by decide) rfl rfl fl_RX11_290 dX11_closureLength_27 ?_
      refine lv_icmp_ge (tgt := 55) hx hb dX11_closureLength_30 (by decide) (fun c8 => ?_) (fun c8 => ?_)
      · have h := it_p c8 h
        refine lv_iconst (v := (-1 : Int32)) hx hb dX11_closureLength_55 (by decide) ?_
        exact x_iretX C S hr (by decide) (by decide) h dX11_closureLength_56
      · have h := it_n c8 h
        refine lv_aload_n hx hb dX11_closureLength_33 rfl (lv_at hl 0 rfl) ?_
        have hR9 : Ok 194 (R x0 5) 3 := hSh x0 11 5 3 hx0.1 rfl
        refine x_getR C S KX11 hx0 5 (by decide) rfl rfl fl_RX11_47 hR9 dX11_closureLength_34 ?_
        have hR10 : Ok 194 (R (R x0 5) 1) 10008 := hSh (R x0 5) 3 1 10008 hR9.1 rfl
        refine x_getR C S KX3 hR9 1 (by decide) rfl rfl fl_RX11_296 hR10 dX11_closureLength_37 ?_
        refine lv_iload_n hx hb dX11_closureLength_40 rfl (lv_at hl 2 rfl) ?_
        obtain ⟨hi11, h⟩ := ck_el h
        refine x_iald (len := 8) C S (by decide) hR10 hi11 dX11_closureLength_41 ?_
        refine lv_aload_n hx hb dX11_closureLength_42 rfl (lv_at hl 0 rfl) ?_
        have hR12 : Ok 194 (R x0 5) 3 := hSh x0 11 5 3 hx0.1 rfl
        refine x_getR C S KX11 hx0 5 (by decide) rfl rfl fl_RX11_47 hR12 dX11_closureLength_43 ?_
        have hR13 : Ok 194 (R (R x0 5) 0) 10008 := hSh (R x0 5) 3 0 10008 hR12.1 rfl
        refine x_getR C S KX3 hR12 0 (by decide) rfl rfl fl_RX11_293 hR13 dX11_closureLength_46 ?_
        refine lv_iload_n hx hb dX11_closureLength_49 rfl (lv_at hl 2 rfl) ?_
        obtain ⟨hi14, h⟩ := ck_el h
        refine x_iald (len := 8) C S (by decide) hR13 hi14 dX11_closureLength_50 ?_
        refine lv_isub hx hb dX11_closureLength_51 ?_
        refine lv_goto (tgt := 56) hx hb dX11_closureLength_52 (by decide) ?_
        exact x_iretX C S hr (by decide) (by decide) h dX11_closureLength_56
  · exact x_callXX C S KX11 hx0 (ok_X11_roadAt (L := L) hc2 hSh hx0) n_PRX ⟨cd_X11_roadAt, ni_RX11, ml_RX11_180, in_X11_roadAt, sl_X11_roadAt⟩ ⟨by decide, by decide⟩ rfl (rm_ok (by decide) (by decide)) hl.1 rfl (Nat.le_of_ble_eq_true rfl) ⟨by decide, by decide⟩ dX11_closureLength_2 hT ⟨by decide, by decide⟩ hr2
theorem dX11_openMinutes_0 : decode cX11_openMinutes 0 = .ok (.aload_n 0, 1) := by decide +kernel
theorem dX11_openMinutes_1 : decode cX11_openMinutes 1 = .ok (.iload_n 1, 1) := by decide +kernel
theorem dX11_openMinutes_2 : decode cX11_openMinutes 2 = .ok (.invokevirtual 180, 3) := by decide +kernel
theorem dX11_openMinutes_5 : decode cX11_openMinutes 5 = .ok (.pop, 1) := by decide +kernel
theorem dX11_openMinutes_6 : decode cX11_openMinutes 6 = .ok (.aload_n 0, 1) := by decide +kernel
theorem dX11_openMinutes_7 : decode cX11_openMinutes 7 = .ok (.iload_n 2, 1) := by decide +kernel
theorem dX11_openMinutes_8 : decode cX11_openMinutes 8 = .ok (.iconst 0, 1) := by decide +kernel
theorem dX11_openMinutes_9 : decode cX11_openMinutes 9 = .ok (.sipush 1439, 3) := by decide +kernel
theorem dX11_openMinutes_12 : decode cX11_openMinutes 12 = .ok (.invokevirtual 176, 3) := by decide +kernel
theorem dX11_openMinutes_15 : decode cX11_openMinutes 15 = .ok (.aload_n 0, 1) := by decide +kernel
theorem dX11_openMinutes_16 : decode cX11_openMinutes 16 = .ok (.iload_n 3, 1) := by decide +kernel
theorem dX11_openMinutes_17 : decode cX11_openMinutes 17 = .ok (.iload_n 2, 1) := by decide +kernel
theorem dX11_openMinutes_18 : decode cX11_openMinutes 18 = .ok (.sipush 1439, 3) := by decide +kernel
theorem dX11_openMinutes_21 : decode cX11_openMinutes 21 = .ok (.invokevirtual 176, 3) := by decide +kernel
theorem dX11_openMinutes_24 : decode cX11_openMinutes 24 = .ok (.aload_n 0, 1) := by decide +kernel
theorem dX11_openMinutes_25 : decode cX11_openMinutes 25 = .ok (.getfield 61, 3) := by decide +kernel
theorem dX11_openMinutes_28 : decode cX11_openMinutes 28 = .ok (.iload_n 1, 1) := by decide +kernel
theorem dX11_openMinutes_29 : decode cX11_openMinutes 29 = .ok (.aload_n 0, 1) := by decide +kernel
theorem dX11_openMinutes_30 : decode cX11_openMinutes 30 = .ok (.getfield 47, 3) := by decide +kernel
theorem dX11_openMinutes_33 : decode cX11_openMinutes 33 = .ok (.invokevirtual 279, 3) := by decide +kernel
theorem dX11_openMinutes_36 : decode cX11_openMinutes 36 = .ok (.iload_n 3, 1) := by decide +kernel
theorem dX11_openMinutes_37 : decode cX11_openMinutes 37 = .ok (.iconst 1, 1) := by decide +kernel
theorem dX11_openMinutes_38 : decode cX11_openMinutes 38 = .ok (.iadd, 1) := by decide +kernel
theorem dX11_openMinutes_39 : decode cX11_openMinutes 39 = .ok (.iload_n 2, 1) := by decide +kernel
theorem dX11_openMinutes_40 : decode cX11_openMinutes 40 = .ok (.isub, 1) := by decide +kernel
theorem dX11_openMinutes_41 : decode cX11_openMinutes 41 = .ok (.aload_n 0, 1) := by decide +kernel
theorem dX11_openMinutes_42 : decode cX11_openMinutes 42 = .ok (.getfield 47, 3) := by decide +kernel
theorem dX11_openMinutes_45 : decode cX11_openMinutes 45 = .ok (.iload_n 2, 1) := by decide +kernel
theorem dX11_openMinutes_46 : decode cX11_openMinutes 46 = .ok (.iload_n 3, 1) := by decide +kernel
theorem dX11_openMinutes_47 : decode cX11_openMinutes 47 = .ok (.iconst 1, 1) := by decide +kernel
theorem dX11_openMinutes_48 : decode cX11_openMinutes 48 = .ok (.iadd, 1) := by decide +kernel
theorem dX11_openMinutes_49 : decode cX11_openMinutes 49 = .ok (.invokevirtual 299, 3) := by decide +kernel
theorem dX11_openMinutes_52 : decode cX11_openMinutes 52 = .ok (.isub, 1) := by decide +kernel
theorem dX11_openMinutes_53 : decode cX11_openMinutes 53 = .ok (.ireturn, 1) := by decide +kernel
def f_X11_openMinutes (N : Nat) (R : Nat → Nat → Nat) (σ : SI) (x0 : Nat) (x1 : Int32) (x2 : Int32) (x3 : Int32) : Option ((Int32 ⊕ Nat) × SI) := bdX (f_X11_roadAt N R σ x0 x1) (fun a2 σ2 => bdX (f_X11_needRange N R σ2 x0 x2 (0 : Int32) (1439 : Int32)) (fun _ σ4 => bdX (f_X11_needRange N R σ4 x0 x3 x2 (1439 : Int32)) (fun _ σ6 => bd (f_X9_collectClosed N R σ6 (R x0 8) x1 (R x0 5)) (fun _ σ9 => bd (f_X3_sizeWithin N R σ9 (R x0 5) x2 (x3 + (1 : Int32))) (fun a11 σ11 => some (.inl (((x3 + (1 : Int32)) - x2) - a11), σ11))))))
set_option maxHeartbeats 4000000 in
set_option maxRecDepth 100000 in
theorem ok_X11_openMinutes {l : Launch} {g : GL} {R : Nat → Nat → Nat} {L : Nat → Nat → Int64} {N : Nat} {σ : SI} {x0 : Nat} {x1 : Int32} {x2 : Int32} {x3 : Int32} {r : ((Int32 ⊕ Nat) × SI)} (h : f_X11_openMinutes N R σ x0 x1 x2 x3 = some r) (hSh : ShR R) (hx0 : Ok 194 x0 11) : CtX l g 7 yX11_openMinutes cX11_openMinutes 4 (some .int) 194 194 3 18 [.ref (gb g + x0), .int x1, .int x2, .int x3] (mkS σ R L) (PIX R L r) (PX R L r) := by
  refine vx_ofW (cc := cX11_openMinutes) (maxL := 4) (ret := (some .int)) (by decide) rfl ?_
  intro p e s m args below meth c s₁ B hml hT hv
  obtain ⟨rfl, hE, hLo, hWd⟩ := hv
  have hr : meth.sig.returnType = (some .int) := B.returns
  have C : Cx l g p s m meth c cX11_openMinutes 4 RX11 := ⟨B.exec, B.bytes, hml, findClass_of_methodNamed B.named, hE, hLo, B.notSynchronized⟩
  have S : S2 g s σ R L s.heap [] := ⟨hWd, va_S.rf⟩
  have hx := C.1
  have hb := C.2.1
  have hl := lv_entry ([.ref (gb g + x0), .int x1, .int x2, .int x3]) (n := 4) (Nat.le_of_ble_eq_true rfl)
  rw [lg_entry_eq]
  generalize (lg_sl ([.ref (gb g + x0), .int x1, .int x2, .int x3]) ++ List.replicate (4 - (lg_sl ([.ref (gb g + x0), .int x1, .int x2, .int x3])).length) Slot.unset).toArray = ls at hl ⊢
  have hl : lv_has ls 4 [(0, .ref (gb g + x0)), (1, .int x1), (2, .int x2), (3, .int x3)] := hl
  generalize hH : s.heap = H at S ⊢
  generalize hlc : ([] : List Loc) = locs at S ⊢
  rw [f_X11_openMinutes] at h
  refine lv_aload_n hx hb dX11_openMinutes_0 rfl (lv_at hl 0 rfl) ?_
  refine lv_iload_n hx hb dX11_openMinutes_1 rfl (lv_at hl 1 rfl) ?_
  rcases bdX_el h with ⟨a2, σ2, hc2, h⟩ | ⟨q2, σ2, hc2, hr2⟩
  · refine x_callXR C S KX11 hx0 (ok_X11_roadAt (L := L) hc2 hSh hx0) ⟨cd_X11_roadAt, ni_RX11, ml_RX11_180, in_X11_roadAt, sl_X11_roadAt⟩ ⟨by decide, by decide⟩ rfl (rm_ok (by decide) (by decide)) hl.1 rfl (Nat.le_of_ble_eq_true rfl) ⟨by decide, by decide⟩ dX11_openMinutes_2 hT ⟨by decide, by decide⟩ (fun H locs ho2 S => ?_)
    refine lv_pop hx hb dX11_openMinutes_5 rfl ?_
    refine lv_aload_n hx hb dX11_openMinutes_6 rfl (lv_at hl 0 rfl) ?_
    refine lv_iload_n hx hb dX11_openMinutes_7 rfl (lv_at hl 2 rfl) ?_
    refine lv_iconst (v := (0 : Int32)) hx hb dX11_openMinutes_8 (by decide) ?_
    refine lv_sipush (v := (1439 : Int32)) hx hb dX11_openMinutes_9 (by decide) ?_
    rcases bdX_el h with ⟨a4, σ4, hc4, h⟩ | ⟨q4, σ4, hc4, hr4⟩
    · refine x_callXV C S KX11 hx0 (ok_X11_needRange (L := L) hc4 hSh hx0) ⟨cd_X11_needRange, ni_RX11, ml_RX11_176, in_X11_needRange, sl_X11_needRange⟩ ⟨by decide, by decide⟩ rfl (rm_ok (by decide) (by decide)) hl.1 rfl (Nat.le_of_ble_eq_true rfl) ⟨by decide, by decide⟩ dX11_openMinutes_12 hT ⟨by decide, by decide⟩ (fun H locs S => ?_)
      refine lv_aload_n hx hb dX11_openMinutes_15 rfl (lv_at hl 0 rfl) ?_
      refine lv_iload_n hx hb dX11_openMinutes_16 rfl (lv_at hl 3 rfl) ?_
      refine lv_iload_n hx hb dX11_openMinutes_17 rfl (lv_at hl 2 rfl) ?_
      refine lv_sipush (v := (1439 : Int32)) hx hb dX11_openMinutes_18 (by decide) ?_
      rcases bdX_el h with ⟨a6, σ6, hc6, h⟩ | ⟨q6, σ6, hc6, hr6⟩
      · refine x_callXV C S KX11 hx0 (ok_X11_needRange (L := L) hc6 hSh hx0) ⟨cd_X11_needRange, ni_RX11, ml_RX11_176, in_X11_needRange, sl_X11_needRange⟩ ⟨by decide, by decide⟩ rfl (rm_ok (by decide) (by decide)) hl.1 rfl (Nat.le_of_ble_eq_true rfl) ⟨by decide, by decide⟩ dX11_openMinutes_21 hT ⟨by decide, by decide⟩ (fun H locs S => ?_)
        refine lv_aload_n hx hb dX11_openMinutes_24 rfl (lv_at hl 0 rfl) ?_
        have hR7 : Ok 194 (R x0 8) 9 := hSh x0 11 8 9 hx0.1 rfl
        refine x_getR C S KX11 hx0 8 (by decide) rfl rfl fl_RX11_61 hR7 dX11_openMinutes_25 ?_
        refine lv_iload_n hx hb dX11_openMinutes_28 rfl (lv_at hl 1 rfl) ?_
        refine lv_aload_n hx hb dX11_openMinutes_29 rfl (lv_at hl 0 rfl) ?_
        have hR8 : Ok 194 (R x0 5) 3 := hSh x0 11 5 3 hx0.1 rfl
        refine x_getR C S KX11 hx0 5 (by decide) rfl rfl fl_RX11_47 hR8 dX11_openMinutes_30 ?_
        obtain ⟨a9, σ9, hc9, h⟩ := bd_el h
        refine x_callVV C S KX9 hR7 (ok_X9_collectClosed (L := L) hc9 hSh hR7 hR8) ⟨cd_X9_collectClosed, ni_RX9, ml_RX11_279, in_X9_collectClosed, sl_X9_collectClosed⟩ ⟨by decide, by decide⟩ rfl (rm_ok (by decide) (by decide)) hl.1 rfl (Nat.le_of_ble_eq_true rfl) ⟨by decide, by decide⟩ dX11_openMinutes_33 (fun H locs S => ?_)
        refine lv_iload_n hx hb dX11_openMinutes_36 rfl (lv_at hl 3 rfl) ?_
        refine lv_iconst (v := (1 : Int32)) hx hb dX11_openMinutes_37 (by decide) ?_
        refine lv_iadd hx hb dX11_openMinutes_38 ?_
        refine lv_iload_n hx hb dX11_openMinutes_39 rfl (lv_at hl 2 rfl) ?_
        refine lv_isub hx hb dX11_openMinutes_40 ?_
        refine lv_aload_n hx hb dX11_openMinutes_41 rfl (lv_at hl 0 rfl) ?_
        have hR10 : Ok 194 (R x0 5) 3 := hSh x0 11 5 3 hx0.1 rfl
        refine x_getR C S KX11 hx0 5 (by decide) rfl rfl fl_RX11_47 hR10 dX11_openMinutes_42 ?_
        refine lv_iload_n hx hb dX11_openMinutes_45 rfl (lv_at hl 2 rfl) ?_
        refine lv_iload_n hx hb dX11_openMinutes_46 rfl (lv_at hl 3 rfl) ?_
        refine lv_iconst (v := (1 : Int32)) hx hb dX11_openMinutes_47 (by decide) ?_
        refine lv_iadd hx hb dX11_openMinutes_48 ?_
        obtain ⟨a11, σ11, hc11, h⟩ := bd_el h
        refine x_callVI C S KX3 hR10 (ok_X3_sizeWithin (L := L) hc11 hSh hR10) ⟨cd_X3_sizeWithin, ni_RX3, ml_RX11_299, in_X3_sizeWithin, sl_X3_sizeWithin⟩ ⟨by decide, by decide⟩ rfl (rm_ok (by decide) (by decide)) hl.1 rfl (Nat.le_of_ble_eq_true rfl) ⟨by decide, by decide⟩ dX11_openMinutes_49 (fun H locs S => ?_)
        refine lv_isub hx hb dX11_openMinutes_52 ?_
        exact x_iretX C S hr (by decide) (by decide) h dX11_openMinutes_53
      · exact x_callXX C S KX11 hx0 (ok_X11_needRange (L := L) hc6 hSh hx0) n_PVX ⟨cd_X11_needRange, ni_RX11, ml_RX11_176, in_X11_needRange, sl_X11_needRange⟩ ⟨by decide, by decide⟩ rfl (rm_ok (by decide) (by decide)) hl.1 rfl (Nat.le_of_ble_eq_true rfl) ⟨by decide, by decide⟩ dX11_openMinutes_21 hT ⟨by decide, by decide⟩ hr6
    · exact x_callXX C S KX11 hx0 (ok_X11_needRange (L := L) hc4 hSh hx0) n_PVX ⟨cd_X11_needRange, ni_RX11, ml_RX11_176, in_X11_needRange, sl_X11_needRange⟩ ⟨by decide, by decide⟩ rfl (rm_ok (by decide) (by decide)) hl.1 rfl (Nat.le_of_ble_eq_true rfl) ⟨by decide, by decide⟩ dX11_openMinutes_12 hT ⟨by decide, by decide⟩ hr4
  · exact x_callXX C S KX11 hx0 (ok_X11_roadAt (L := L) hc2 hSh hx0) n_PRX ⟨cd_X11_roadAt, ni_RX11, ml_RX11_180, in_X11_roadAt, sl_X11_roadAt⟩ ⟨by decide, by decide⟩ rfl (rm_ok (by decide) (by decide)) hl.1 rfl (Nat.le_of_ble_eq_true rfl) ⟨by decide, by decide⟩ dX11_openMinutes_2 hT ⟨by decide, by decide⟩ hr2
theorem dX11_sharedMinutes_0 : decode cX11_sharedMinutes 0 = .ok (.aload_n 0, 1) := by decide +kernel
theorem dX11_sharedMinutes_1 : decode cX11_sharedMinutes 1 = .ok (.iload_n 1, 1) := by decide +kernel
theorem dX11_sharedMinutes_2 : decode cX11_sharedMinutes 2 = .ok (.invokevirtual 180, 3) := by decide +kernel
theorem dX11_sharedMinutes_5 : decode cX11_sharedMinutes 5 = .ok (.pop, 1) := by decide +kernel
theorem dX11_sharedMinutes_6 : decode cX11_sharedMinutes 6 = .ok (.aload_n 0, 1) := by decide +kernel
theorem dX11_sharedMinutes_7 : decode cX11_sharedMinutes 7 = .ok (.iload_n 2, 1) := by decide +kernel
theorem dX11_sharedMinutes_8 : decode cX11_sharedMinutes 8 = .ok (.invokevirtual 180, 3) := by decide +kernel
theorem dX11_sharedMinutes_11 : decode cX11_sharedMinutes 11 = .ok (.pop, 1) := by decide +kernel
theorem dX11_sharedMinutes_12 : decode cX11_sharedMinutes 12 = .ok (.aload_n 0, 1) := by decide +kernel
theorem dX11_sharedMinutes_13 : decode cX11_sharedMinutes 13 = .ok (.getfield 61, 3) := by decide +kernel
theorem dX11_sharedMinutes_16 : decode cX11_sharedMinutes 16 = .ok (.iload_n 1, 1) := by decide +kernel
theorem dX11_sharedMinutes_17 : decode cX11_sharedMinutes 17 = .ok (.aload_n 0, 1) := by decide +kernel
theorem dX11_sharedMinutes_18 : decode cX11_sharedMinutes 18 = .ok (.getfield 47, 3) := by decide +kernel
theorem dX11_sharedMinutes_21 : decode cX11_sharedMinutes 21 = .ok (.invokevirtual 279, 3) := by decide +kernel
theorem dX11_sharedMinutes_24 : decode cX11_sharedMinutes 24 = .ok (.aload_n 0, 1) := by decide +kernel
theorem dX11_sharedMinutes_25 : decode cX11_sharedMinutes 25 = .ok (.getfield 61, 3) := by decide +kernel
theorem dX11_sharedMinutes_28 : decode cX11_sharedMinutes 28 = .ok (.iload_n 2, 1) := by decide +kernel
theorem dX11_sharedMinutes_29 : decode cX11_sharedMinutes 29 = .ok (.aload_n 0, 1) := by decide +kernel
theorem dX11_sharedMinutes_30 : decode cX11_sharedMinutes 30 = .ok (.getfield 51, 3) := by decide +kernel
theorem dX11_sharedMinutes_33 : decode cX11_sharedMinutes 33 = .ok (.invokevirtual 279, 3) := by decide +kernel
theorem dX11_sharedMinutes_36 : decode cX11_sharedMinutes 36 = .ok (.iconst 0, 1) := by decide +kernel
theorem dX11_sharedMinutes_37 : decode cX11_sharedMinutes 37 = .ok (.istore_n 3, 1) := by decide +kernel
theorem dX11_sharedMinutes_38 : decode cX11_sharedMinutes 38 = .ok (.iconst 0, 1) := by decide +kernel
theorem dX11_sharedMinutes_39 : decode cX11_sharedMinutes 39 = .ok (.istore 4, 2) := by decide +kernel
theorem dX11_sharedMinutes_41 : decode cX11_sharedMinutes 41 = .ok (.iload 4, 2) := by decide +kernel
theorem dX11_sharedMinutes_43 : decode cX11_sharedMinutes 43 = .ok (.aload_n 0, 1) := by decide +kernel
theorem dX11_sharedMinutes_44 : decode cX11_sharedMinutes 44 = .ok (.getfield 47, 3) := by decide +kernel
theorem dX11_sharedMinutes_47 : decode cX11_sharedMinutes 47 = .ok (.getfield 290, 3) := by decide +kernel
theorem dX11_sharedMinutes_50 : decode cX11_sharedMinutes 50 = .ok (.if_icmp .ge 39, 3) := by decide +kernel
theorem dX11_sharedMinutes_53 : decode cX11_sharedMinutes 53 = .ok (.iload_n 3, 1) := by decide +kernel
theorem dX11_sharedMinutes_54 : decode cX11_sharedMinutes 54 = .ok (.aload_n 0, 1) := by decide +kernel
theorem dX11_sharedMinutes_55 : decode cX11_sharedMinutes 55 = .ok (.getfield 51, 3) := by decide +kernel
theorem dX11_sharedMinutes_58 : decode cX11_sharedMinutes 58 = .ok (.aload_n 0, 1) := by decide +kernel
theorem dX11_sharedMinutes_59 : decode cX11_sharedMinutes 59 = .ok (.getfield 47, 3) := by decide +kernel
theorem dX11_sharedMinutes_62 : decode cX11_sharedMinutes 62 = .ok (.getfield 293, 3) := by decide +kernel
theorem dX11_sharedMinutes_65 : decode cX11_sharedMinutes 65 = .ok (.iload 4, 2) := by decide +kernel
theorem dX11_sharedMinutes_67 : decode cX11_sharedMinutes 67 = .ok (.iaload, 1) := by decide +kernel
theorem dX11_sharedMinutes_68 : decode cX11_sharedMinutes 68 = .ok (.aload_n 0, 1) := by decide +kernel
theorem dX11_sharedMinutes_69 : decode cX11_sharedMinutes 69 = .ok (.getfield 47, 3) := by decide +kernel
theorem dX11_sharedMinutes_72 : decode cX11_sharedMinutes 72 = .ok (.getfield 296, 3) := by decide +kernel
theorem dX11_sharedMinutes_75 : decode cX11_sharedMinutes 75 = .ok (.iload 4, 2) := by decide +kernel
theorem dX11_sharedMinutes_77 : decode cX11_sharedMinutes 77 = .ok (.iaload, 1) := by decide +kernel
theorem dX11_sharedMinutes_78 : decode cX11_sharedMinutes 78 = .ok (.invokevirtual 299, 3) := by decide +kernel
theorem dX11_sharedMinutes_81 : decode cX11_sharedMinutes 81 = .ok (.iadd, 1) := by decide +kernel
theorem dX11_sharedMinutes_82 : decode cX11_sharedMinutes 82 = .ok (.istore_n 3, 1) := by decide +kernel
theorem dX11_sharedMinutes_83 : decode cX11_sharedMinutes 83 = .ok (.iinc 4 1, 3) := by decide +kernel
theorem dX11_sharedMinutes_86 : decode cX11_sharedMinutes 86 = .ok (.goto (-45), 3) := by decide +kernel
theorem dX11_sharedMinutes_89 : decode cX11_sharedMinutes 89 = .ok (.iload_n 3, 1) := by decide +kernel
theorem dX11_sharedMinutes_90 : decode cX11_sharedMinutes 90 = .ok (.ireturn, 1) := by decide +kernel
def f_X11_sharedMinutes_41 (N : Nat) (R : Nat → Nat → Nat) : Nat → SI → Nat → Int32 → Int32 → Option ((Int32 ⊕ Nat) × SI)
  | 0, _, _, _, _ => none
  | n + 1, σ, x0, x3, x4 => if (σ (R x0 5) 2) ≤ x4 then (some (.inl x3, σ)) else (ck x4 8 (ck x4 8 (bd (f_X3_sizeWithin N R σ (R x0 6) (σ (R (R x0 5) 0) x4.toNatClampNeg) (σ (R (R x0 5) 1) x4.toNatClampNeg)) (fun a20 σ20 => f_X11_sharedMinutes_41 N R n σ20 x0 (x3 + a20) (x4 + 1)))))
def f_X11_sharedMinutes (N : Nat) (R : Nat → Nat → Nat) (σ : SI) (x0 : Nat) (x1 : Int32) (x2 : Int32) : Option ((Int32 ⊕ Nat) × SI) := bdX (f_X11_roadAt N R σ x0 x1) (fun a2 σ2 => bdX (f_X11_roadAt N R σ2 x0 x2) (fun a4 σ4 => bd (f_X9_collectClosed N R σ4 (R x0 8) x1 (R x0 5)) (fun _ σ7 => bd (f_X9_collectClosed N R σ7 (R x0 8) x2 (R x0 6)) (fun _ σ10 => f_X11_sharedMinutes_41 N R N σ10 x0 (0 : Int32) (0 : Int32)))))
set_option maxHeartbeats 4000000 in
set_option maxRecDepth 100000 in
theorem w_X11_sharedMinutes_41 {l : Launch} {g : GL} {p : Program} {e : Jvm.Env} {s : State} {m : MethodId} {args : Array Value} {below : List Frame} {meth : Method} {c : Code} {R : Nat → Nat → Nat} {L : Nat → Nat → Int64} {r : ((Int32 ⊕ Nat) × SI)} {N : Nat} (C : Cx l g p s m meth c cX11_sharedMinutes 5 RX11) (hr : meth.sig.returnType = (some .int)) (hT : ∀ x ∈ c.exceptionTable.toList, False) (hSh : ShR R) : ∀ (n : Nat) (σ : SI) (x0 : Nat) (x3 : Int32) (x4 : Int32), f_X11_sharedMinutes_41 N R n σ x0 x3 x4 = some r → Ok 194 x0 11 → ∀ (H : Heap) (locs : List Loc) (ls : Array Slot), S2 g s σ R L H locs → lv_has ls 5 [(0, .ref (gb g + x0)), (3, .int x3), (4, .int x4)] → W p l e (rmd 7 2 12) s m args below meth c H locs 2 (6 * 2) (vx_MQ below (Qg g 194 (PIX R L r)) (Xg g 194 (PX R L r)) args s 2 12 (gA g)) (F0 m 41 ls []) := by
  have hx := C.1
  have hb := C.2.1
  intro n
  induction n with
  | zero =>
    intro σ x0 x3 x4 h
    cases (show (none : Option ((Int32 ⊕ Nat) × SI)) = some r from h)
  | succ n ih =>
    intro σ x0 x3 x4 h hx0 H locs ls S hl
    rw [f_X11_sharedMinutes_41] at h
    refine lv_iload hx hb dX11_sharedMinutes_41 (lv_at hl 2 rfl) ?_
    refine lv_aload_n hx hb dX11_sharedMinutes_43 rfl (lv_at hl 0 rfl) ?_
    have hR11 : Ok 194 (R x0 5) 3 := hSh x0 11 5 3 hx0.1 rfl
    refine x_getR C S KX11 hx0 5 (by decide) rfl rfl fl_RX11_47 hR11 dX11_sharedMinutes_44 ?_
    refine x_getI C S KX3 hR11 2 (by decide) rfl rfl fl_RX11_290 dX11_sharedMinutes_47 ?_
    refine lv_icmp_ge (tgt := 89) hx hb dX11_sharedMinutes_50 (by decide) (fun c12 => ?_) (fun c12 => ?_)
    · have h := it_p c12 h
      refine lv_iload_n hx hb dX11_sharedMinutes_89 rfl (lv_at hl 1 rfl) ?_
      exact x_iretX C S hr (by decide) (by decide) h dX11_sharedMinutes_90
    · have h := it_n c12 h
      refine lv_iload_n hx hb dX11_sharedMinutes_53 rfl (lv_at hl 1 rfl) ?_
      refine lv_aload_n hx hb dX11_sharedMinutes_54 rfl (lv_at hl 0 rfl) ?_
      have hR13 : Ok 194 (R x0 6) 3 := hSh x0 11 6 3 hx0.1 rfl
      refine x_getR C S KX11 hx0 6 (by decide) rfl rfl fl_RX11_51 hR13 dX11_sharedMinutes_55 ?_
      refine lv_aload_n hx hb dX11_sharedMinutes_58 rfl (lv_at hl 0 rfl) ?_
      have hR14 : Ok 194 (R x0 5) 3 := hSh x0 11 5 3 hx0.1 rfl
      refine x_getR C S KX11 hx0 5 (by decide) rfl rfl fl_RX11_47 hR14 dX11_sharedMinutes_59 ?_
      have hR15 : Ok 194 (R (R x0 5) 0) 10008 := hSh (R x0 5) 3 0 10008 hR14.1 rfl
      refine x_getR C S KX3 hR14 0 (by decide) rfl rfl fl_RX11_293 hR15 dX11_sharedMinutes_62 ?_
      refine lv_iload hx hb dX11_sharedMinutes_65 (lv_at hl 2 rfl) ?_
      obtain ⟨hi16, h⟩ := ck_el h
      refine x_iald (len := 8) C S (by decide) hR15 hi16 dX11_sharedMinutes_67 ?_
      refine lv_aload_n hx hb dX11_sharedMinutes_68 rfl (lv_at hl 0 rfl) ?_
      have hR17 : Ok 194 (R x0 5) 3 := hSh x0 11 5 3 hx0.1 rfl
      refine x_getR C S KX11 hx0 5 (by decide) rfl rfl fl_RX11_47 hR17 dX11_sharedMinutes_69 ?_
      have hR18 : Ok 194 (R (R x0 5) 1) 10008 := hSh (R x0 5) 3 1 10008 hR17.1 rfl
      refine x_getR C S KX3 hR17 1 (by decide) rfl rfl fl_RX11_296 hR18 dX11_sharedMinutes_72 ?_
      refine lv_iload hx hb dX11_sharedMinutes_75 (lv_at hl 2 rfl) ?_
      obtain ⟨hi19, h⟩ := ck_el h
      refine x_iald (len := 8) C S (by decide) hR18 hi19 dX11_sharedMinutes_77 ?_
      obtain ⟨a20, σ20, hc20, h⟩ := bd_el h
      refine x_callVI C S KX3 hR13 (ok_X3_sizeWithin (L := L) hc20 hSh hR13) ⟨cd_X3_sizeWithin, ni_RX3, ml_RX11_299, in_X3_sizeWithin, sl_X3_sizeWithin⟩ ⟨by decide, by decide⟩ rfl (rm_ok (by decide) (by decide)) hl.1 rfl (Nat.le_of_ble_eq_true rfl) ⟨by decide, by decide⟩ dX11_sharedMinutes_78 (fun H locs S => ?_)
      refine lv_iadd hx hb dX11_sharedMinutes_81 ?_
      refine lv_istore_n (lv' := [(3, .int (x3 + a20)), (0, .ref (gb g + x0)), (4, .int x4)]) hx hb dX11_sharedMinutes_82 rfl hl (by decide) rfl (fun ls hl => ?_)
      refine lv_iinc (v := x4 + 1) (lv' := [(4, .int (x4 + 1)), (3, .int (x3 + a20)), (0, .ref (gb g + x0))]) hx hb dX11_sharedMinutes_83 hl (k := 2) rfl rfl (by decide) rfl (fun ls hl => ?_)
      refine lv_goto (tgt := 41) hx hb dX11_sharedMinutes_86 (by decide) ?_
      exact ih σ20 x0 (x3 + a20) (x4 + 1) h hx0 H locs ls S (lv_sub hl [2, 1, 0] rfl)
set_option maxHeartbeats 4000000 in
set_option maxRecDepth 100000 in
theorem ok_X11_sharedMinutes {l : Launch} {g : GL} {R : Nat → Nat → Nat} {L : Nat → Nat → Int64} {N : Nat} {σ : SI} {x0 : Nat} {x1 : Int32} {x2 : Int32} {r : ((Int32 ⊕ Nat) × SI)} (h : f_X11_sharedMinutes N R σ x0 x1 x2 = some r) (hSh : ShR R) (hx0 : Ok 194 x0 11) : CtX l g 7 yX11_sharedMinutes cX11_sharedMinutes 5 (some .int) 194 194 2 12 [.ref (gb g + x0), .int x1, .int x2] (mkS σ R L) (PIX R L r) (PX R L r) := by
  refine vx_ofW (cc := cX11_sharedMinutes) (maxL := 5) (ret := (some .int)) (by decide) rfl ?_
  intro p e s m args below meth c s₁ B hml hT hv
  obtain ⟨rfl, hE, hLo, hWd⟩ := hv
  have hr : meth.sig.returnType = (some .int) := B.returns
  have C : Cx l g p s m meth c cX11_sharedMinutes 5 RX11 := ⟨B.exec, B.bytes, hml, findClass_of_methodNamed B.named, hE, hLo, B.notSynchronized⟩
  have S : S2 g s σ R L s.heap [] := ⟨hWd, va_S.rf⟩
  have hx := C.1
  have hb := C.2.1
  have hl := lv_entry ([.ref (gb g + x0), .int x1, .int x2]) (n := 5) (Nat.le_of_ble_eq_true rfl)
  rw [lg_entry_eq]
  generalize (lg_sl ([.ref (gb g + x0), .int x1, .int x2]) ++ List.replicate (5 - (lg_sl ([.ref (gb g + x0), .int x1, .int x2])).length) Slot.unset).toArray = ls at hl ⊢
  have hl : lv_has ls 5 [(0, .ref (gb g + x0)), (1, .int x1), (2, .int x2)] := hl
  generalize hH : s.heap = H at S ⊢
  generalize hlc : ([] : List Loc) = locs at S ⊢
  rw [f_X11_sharedMinutes] at h
  refine lv_aload_n hx hb dX11_sharedMinutes_0 rfl (lv_at hl 0 rfl) ?_
  refine lv_iload_n hx hb dX11_sharedMinutes_1 rfl (lv_at hl 1 rfl) ?_
  rcases bdX_el h with ⟨a2, σ2, hc2, h⟩ | ⟨q2, σ2, hc2, hr2⟩
  · refine x_callXR C S KX11 hx0 (ok_X11_roadAt (L := L) hc2 hSh hx0) ⟨cd_X11_roadAt, ni_RX11, ml_RX11_180, in_X11_roadAt, sl_X11_roadAt⟩ ⟨by decide, by decide⟩ rfl (rm_ok (by decide) (by decide)) hl.1 rfl (Nat.le_of_ble_eq_true rfl) ⟨by decide, by decide⟩ dX11_sharedMinutes_2 hT ⟨by decide, by decide⟩ (fun H locs ho2 S => ?_)
    refine lv_pop hx hb dX11_sharedMinutes_5 rfl ?_
    refine lv_aload_n hx hb dX11_sharedMinutes_6 rfl (lv_at hl 0 rfl) ?_
    refine lv_iload_n hx hb dX11_sharedMinutes_7 rfl (lv_at hl 2 rfl) ?_
    rcases bdX_el h with ⟨a4, σ4, hc4, h⟩ | ⟨q4, σ4, hc4, hr4⟩
    · refine x_callXR C S KX11 hx0 (ok_X11_roadAt (L := L) hc4 hSh hx0) ⟨cd_X11_roadAt, ni_RX11, ml_RX11_180, in_X11_roadAt, sl_X11_roadAt⟩ ⟨by decide, by decide⟩ rfl (rm_ok (by decide) (by decide)) hl.1 rfl (Nat.le_of_ble_eq_true rfl) ⟨by decide, by decide⟩ dX11_sharedMinutes_8 hT ⟨by decide, by decide⟩ (fun H locs ho4 S => ?_)
      refine lv_pop hx hb dX11_sharedMinutes_11 rfl ?_
      refine lv_aload_n hx hb dX11_sharedMinutes_12 rfl (lv_at hl 0 rfl) ?_
      have hR5 : Ok 194 (R x0 8) 9 := hSh x0 11 8 9 hx0.1 rfl
      refine x_getR C S KX11 hx0 8 (by decide) rfl rfl fl_RX11_61 hR5 dX11_sharedMinutes_13 ?_
      refine lv_iload_n hx hb dX11_sharedMinutes_16 rfl (lv_at hl 1 rfl) ?_
      refine lv_aload_n hx hb dX11_sharedMinutes_17 rfl (lv_at hl 0 rfl) ?_
      have hR6 : Ok 194 (R x0 5) 3 := hSh x0 11 5 3 hx0.1 rfl
      refine x_getR C S KX11 hx0 5 (by decide) rfl rfl fl_RX11_47 hR6 dX11_sharedMinutes_18 ?_
      obtain ⟨a7, σ7, hc7, h⟩ := bd_el h
      refine x_callVV C S KX9 hR5 (ok_X9_collectClosed (L := L) hc7 hSh hR5 hR6) ⟨cd_X9_collectClosed, ni_RX9, ml_RX11_279, in_X9_collectClosed, sl_X9_collectClosed⟩ ⟨by decide, by decide⟩ rfl (rm_ok (by decide) (by decide)) hl.1 rfl (Nat.le_of_ble_eq_true rfl) ⟨by decide, by decide⟩ dX11_sharedMinutes_21 (fun H locs S => ?_)
      refine lv_aload_n hx hb dX11_sharedMinutes_24 rfl (lv_at hl 0 rfl) ?_
      have hR8 : Ok 194 (R x0 8) 9 := hSh x0 11 8 9 hx0.1 rfl
      refine x_getR C S KX11 hx0 8 (by decide) rfl rfl fl_RX11_61 hR8 dX11_sharedMinutes_25 ?_
      refine lv_iload_n hx hb dX11_sharedMinutes_28 rfl (lv_at hl 2 rfl) ?_
      refine lv_aload_n hx hb dX11_sharedMinutes_29 rfl (lv_at hl 0 rfl) ?_
      have hR9 : Ok 194 (R x0 6) 3 := hSh x0 11 6 3 hx0.1 rfl
      refine x_getR C S KX11 hx0 6 (by decide) rfl rfl fl_RX11_51 hR9 dX11_sharedMinutes_30 ?_
      obtain ⟨a10, σ10, hc10, h⟩ := bd_el h
      refine x_callVV C S KX9 hR8 (ok_X9_collectClosed (L := L) hc10 hSh hR8 hR9) ⟨cd_X9_collectClosed, ni_RX9, ml_RX11_279, in_X9_collectClosed, sl_X9_collectClosed⟩ ⟨by decide, by decide⟩ rfl (rm_ok (by decide) (by decide)) hl.1 rfl (Nat.le_of_ble_eq_true rfl) ⟨by decide, by decide⟩ dX11_sharedMinutes_33 (fun H locs S => ?_)
      refine lv_iconst (v := (0 : Int32)) hx hb dX11_sharedMinutes_36 (by decide) ?_
      refine lv_istore_n (lv' := [(3, .int (0 : Int32)), (0, .ref (gb g + x0)), (1, .int x1), (2, .int x2)]) hx hb dX11_sharedMinutes_37 rfl hl (by decide) rfl (fun ls hl => ?_)
      refine lv_iconst (v := (0 : Int32)) hx hb dX11_sharedMinutes_38 (by decide) ?_
      refine lv_istore (lv' := [(4, .int (0 : Int32)), (3, .int (0 : Int32)), (0, .ref (gb g + x0)), (1, .int x1), (2, .int x2)]) hx hb dX11_sharedMinutes_39 hl (by decide) rfl (fun ls hl => ?_)
      exact w_X11_sharedMinutes_41 C hr hT hSh N σ10 x0 (0 : Int32) (0 : Int32) h hx0 H locs ls S (lv_sub hl [2, 1, 0] rfl)
    · exact x_callXX C S KX11 hx0 (ok_X11_roadAt (L := L) hc4 hSh hx0) n_PRX ⟨cd_X11_roadAt, ni_RX11, ml_RX11_180, in_X11_roadAt, sl_X11_roadAt⟩ ⟨by decide, by decide⟩ rfl (rm_ok (by decide) (by decide)) hl.1 rfl (Nat.le_of_ble_eq_true rfl) ⟨by decide, by decide⟩ dX11_sharedMinutes_8 hT ⟨by decide, by decide⟩ hr4
  · exact x_callXX C S KX11 hx0 (ok_X11_roadAt (L := L) hc2 hSh hx0) n_PRX ⟨cd_X11_roadAt, ni_RX11, ml_RX11_180, in_X11_roadAt, sl_X11_roadAt⟩ ⟨by decide, by decide⟩ rfl (rm_ok (by decide) (by decide)) hl.1 rfl (Nat.le_of_ble_eq_true rfl) ⟨by decide, by decide⟩ dX11_sharedMinutes_2 hT ⟨by decide, by decide⟩ hr2
theorem dX11_sirenAt_0 : decode cX11_sirenAt 0 = .ok (.aload_n 0, 1) := by decide +kernel
theorem dX11_sirenAt_1 : decode cX11_sirenAt 1 = .ok (.getfield 33, 3) := by decide +kernel
theorem dX11_sirenAt_4 : decode cX11_sirenAt 4 = .ok (.aload_n 0, 1) := by decide +kernel
theorem dX11_sirenAt_5 : decode cX11_sirenAt 5 = .ok (.getfield 61, 3) := by decide +kernel
theorem dX11_sirenAt_8 : decode cX11_sirenAt 8 = .ok (.invokevirtual 305, 3) := by decide +kernel
theorem dX11_sirenAt_11 : decode cX11_sirenAt 11 = .ok (.iload_n 1, 1) := by decide +kernel
theorem dX11_sirenAt_12 : decode cX11_sirenAt 12 = .ok (.ifCond .lt 14, 3) := by decide +kernel
theorem dX11_sirenAt_15 : decode cX11_sirenAt 15 = .ok (.iload_n 1, 1) := by decide +kernel
theorem dX11_sirenAt_16 : decode cX11_sirenAt 16 = .ok (.aload_n 0, 1) := by decide +kernel
theorem dX11_sirenAt_17 : decode cX11_sirenAt 17 = .ok (.getfield 33, 3) := by decide +kernel
theorem dX11_sirenAt_20 : decode cX11_sirenAt 20 = .ok (.getfield 309, 3) := by decide +kernel
theorem dX11_sirenAt_23 : decode cX11_sirenAt 23 = .ok (.if_icmp .lt 14, 3) := by decide +kernel
theorem dX11_sirenAt_26 : decode cX11_sirenAt 26 = .ok (.new 90, 3) := by decide +kernel
theorem dX11_sirenAt_29 : decode cX11_sirenAt 29 = .ok (.dup, 1) := by decide +kernel
theorem dX11_sirenAt_30 : decode cX11_sirenAt 30 = .ok (.ldc_w 383, 3) := by decide +kernel
theorem dX11_sirenAt_33 : decode cX11_sirenAt 33 = .ok (.invokespecial 94, 3) := by decide +kernel
theorem dX11_sirenAt_36 : decode cX11_sirenAt 36 = .ok (.athrow, 1) := by decide +kernel
theorem dX11_sirenAt_37 : decode cX11_sirenAt 37 = .ok (.aload_n 0, 1) := by decide +kernel
theorem dX11_sirenAt_38 : decode cX11_sirenAt 38 = .ok (.getfield 33, 3) := by decide +kernel
theorem dX11_sirenAt_41 : decode cX11_sirenAt 41 = .ok (.getfield 385, 3) := by decide +kernel
theorem dX11_sirenAt_44 : decode cX11_sirenAt 44 = .ok (.iload_n 1, 1) := by decide +kernel
theorem dX11_sirenAt_45 : decode cX11_sirenAt 45 = .ok (.iaload, 1) := by decide +kernel
theorem dX11_sirenAt_46 : decode cX11_sirenAt 46 = .ok (.ireturn, 1) := by decide +kernel
def f_X11_sirenAt_26 (N : Nat) (R : Nat → Nat → Nat) (σ : SI) : Option ((Int32 ⊕ Nat) × SI) := some (.inr 1, σ)
def f_X11_sirenAt (N : Nat) (R : Nat → Nat → Nat) (σ : SI) (x0 : Nat) (x1 : Int32) : Option ((Int32 ⊕ Nat) × SI) := bd (f_X8_gather N R σ (R x0 3) (R x0 8)) (fun _ σ3 => if x1 < 0 then (f_X11_sirenAt_26 N R σ3) else (if x1 < (σ3 (R x0 3) 1) then (ck x1 18 (some (.inl (σ3 (R (R x0 3) 0) x1.toNatClampNeg), σ3))) else (f_X11_sirenAt_26 N R σ3)))
set_option maxHeartbeats 4000000 in
set_option maxRecDepth 100000 in
theorem w_X11_sirenAt_26 {l : Launch} {g : GL} {p : Program} {e : Jvm.Env} {s : State} {m : MethodId} {args : Array Value} {below : List Frame} {meth : Method} {c : Code} {R : Nat → Nat → Nat} {L : Nat → Nat → Int64} {r : ((Int32 ⊕ Nat) × SI)} {N : Nat} (C : Cx l g p s m meth c cX11_sirenAt 2 RX11) (hr : meth.sig.returnType = (some .int)) (hT : ∀ x ∈ c.exceptionTable.toList, False) (hSh : ShR R) : ∀ (σ : SI), f_X11_sirenAt_26 N R σ = some r → ∀ (H : Heap) (locs : List Loc) (ls : Array Slot), S2 g s σ R L H locs → lv_has ls 2 [] → W p l e (rmd 6 1 6) s m args below meth c H locs 0 0 (vx_MQ below (Qg g 194 (PIX R L r)) (Xg g 194 (PX R L r)) args s 1 6 (gA g)) (F0 m 26 ls []) := by
  have hx := C.1
  have hb := C.2.1
  intro σ h H locs ls S hl
  rw [f_X11_sirenAt_26] at h
  exact x_throwW (q := 1) C S (by decide) cl_RX11_90 ni_ex1 (show (RX11, 383, "no such siren", 23) ∈ strTab by decide) at_RX11_94 hl.1 dX11_sirenAt_26 dX11_sirenAt_29 dX11_sirenAt_30 dX11_sirenAt_33 dX11_sirenAt_36 hT (by decide) (Nat.le_of_ble_eq_true rfl) (by decide) (by decide) (by decide) (by decide) rfl h
set_option maxHeartbeats 4000000 in
set_option maxRecDepth 100000 in
theorem ok_X11_sirenAt {l : Launch} {g : GL} {R : Nat → Nat → Nat} {L : Nat → Nat → Int64} {N : Nat} {σ : SI} {x0 : Nat} {x1 : Int32} {r : ((Int32 ⊕ Nat) × SI)} (h : f_X11_sirenAt N R σ x0 x1 = some r) (hSh : ShR R) (hx0 : Ok 194 x0 11) : CtX l g 6 yX11_sirenAt cX11_sirenAt 2 (some .int) 194 194 1 6 [.ref (gb g + x0), .int x1] (mkS σ R L) (PIX R L r) (PX R L r) := by
  refine vx_ofW (cc := cX11_sirenAt) (maxL := 2) (ret := (some .int)) (by decide) rfl ?_
  intro p e s m args below meth c s₁ B hml hT hv
  obtain ⟨rfl, hE, hLo, hWd⟩ := hv
  have hr : meth.sig.returnType = (some .int) := B.returns
  have C : Cx l g p s m meth c cX11_sirenAt 2 RX11 := ⟨B.exec, B.bytes, hml, findClass_of_methodNamed B.named, hE, hLo, B.notSynchronized⟩
  have S : S2 g s σ R L s.heap [] := ⟨hWd, va_S.rf⟩
  have hx := C.1
  have hb := C.2.1
  have hl := lv_entry ([.ref (gb g + x0), .int x1]) (n := 2) (Nat.le_of_ble_eq_true rfl)
  rw [lg_entry_eq]
  generalize (lg_sl ([.ref (gb g + x0), .int x1]) ++ List.replicate (2 - (lg_sl ([.ref (gb g + x0), .int x1])).length) Slot.unset).toArray = ls at hl ⊢
  have hl : lv_has ls 2 [(0, .ref (gb g + x0)), (1, .int x1)] := hl
  generalize hH : s.heap = H at S ⊢
  generalize hlc : ([] : List Loc) = locs at S ⊢
  rw [f_X11_sirenAt] at h
  refine lv_aload_n hx hb dX11_sirenAt_0 rfl (lv_at hl 0 rfl) ?_
  have hR1 : Ok 194 (R x0 3) 8 := hSh x0 11 3 8 hx0.1 rfl
  refine x_getR C S KX11 hx0 3 (by decide) rfl rfl fl_RX11_33 hR1 dX11_sirenAt_1 ?_
  refine lv_aload_n hx hb dX11_sirenAt_4 rfl (lv_at hl 0 rfl) ?_
  have hR2 : Ok 194 (R x0 8) 9 := hSh x0 11 8 9 hx0.1 rfl
  refine x_getR C S KX11 hx0 8 (by decide) rfl rfl fl_RX11_61 hR2 dX11_sirenAt_5 ?_
  obtain ⟨a3, σ3, hc3, h⟩ := bd_el h
  refine x_callVV C S KX8 hR1 (ok_X8_gather (L := L) hc3 hSh hR1 hR2) ⟨cd_X8_gather, ni_RX8, ml_RX11_305, in_X8_gather, sl_X8_gather⟩ ⟨by decide, by decide⟩ rfl (rm_ok (by decide) (by decide)) hl.1 rfl (Nat.le_of_ble_eq_true rfl) ⟨by decide, by decide⟩ dX11_sirenAt_8 (fun H locs S => ?_)
  refine lv_iload_n hx hb dX11_sirenAt_11 rfl (lv_at hl 1 rfl) ?_
  refine lv_if_lt (tgt := 26) hx hb dX11_sirenAt_12 (by decide) (fun c4 => ?_) (fun c4 => ?_)
  · have h := it_p c4 h
    exact w_X11_sirenAt_26 C hr hT hSh σ3 h H locs ls S (lv_sub hl [] rfl)
  · have h := it_n c4 h
    refine lv_iload_n hx hb dX11_sirenAt_15 rfl (lv_at hl 1 rfl) ?_
    refine lv_aload_n hx hb dX11_sirenAt_16 rfl (lv_at hl 0 rfl) ?_
    have hR5 : Ok 194 (R x0 3) 8 := hSh x0 11 3 8 hx0.1 rfl
    refine x_getR C S KX11 hx0 3 (by decide) rfl rfl fl_RX11_33 hR5 dX11_sirenAt_17 ?_
    refine x_getI C S KX8 hR5 1 (by decide) rfl rfl fl_RX11_309 dX11_sirenAt_20 ?_
    refine lv_icmp_lt (tgt := 37) hx hb dX11_sirenAt_23 (by decide) (fun c6 => ?_) (fun c6 => ?_)
    · have h := it_p c6 h
      refine lv_aload_n hx hb dX11_sirenAt_37 rfl (lv_at hl 0 rfl) ?_
      have hR7 : Ok 194 (R x0 3) 8 := hSh x0 11 3 8 hx0.1 rfl
      refine x_getR C S KX11 hx0 3 (by decide) rfl rfl fl_RX11_33 hR7 dX11_sirenAt_38 ?_
      have hR8 : Ok 194 (R (R x0 3) 0) 10018 := hSh (R x0 3) 8 0 10018 hR7.1 rfl
      refine x_getR C S KX8 hR7 0 (by decide) rfl rfl fl_RX11_385 hR8 dX11_sirenAt_41 ?_
      refine lv_iload_n hx hb dX11_sirenAt_44 rfl (lv_at hl 1 rfl) ?_
      obtain ⟨hi9, h⟩ := ck_el h
      refine x_iald (len := 18) C S (by decide) hR8 hi9 dX11_sirenAt_45 ?_
      exact x_iretX C S hr (by decide) (by decide) h dX11_sirenAt_46
    · have h := it_n c6 h
      exact w_X11_sirenAt_26 C hr hT hSh σ3 h H locs ls S (lv_sub hl [] rfl)
theorem dX1_write_0 : decode cX1_write 0 = .ok (.aload_n 0, 1) := by decide +kernel
theorem dX1_write_1 : decode cX1_write 1 = .ok (.iconst 0, 1) := by decide +kernel
theorem dX1_write_2 : decode cX1_write 2 = .ok (.putfield 15, 3) := by decide +kernel
theorem dX1_write_5 : decode cX1_write 5 = .ok (.aload_n 0, 1) := by decide +kernel
theorem dX1_write_6 : decode cX1_write 6 = .ok (.iload_n 1, 1) := by decide +kernel
theorem dX1_write_7 : decode cX1_write 7 = .ok (.invokevirtual 19, 3) := by decide +kernel
theorem dX1_write_10 : decode cX1_write 10 = .ok (.aload_n 0, 1) := by decide +kernel
theorem dX1_write_11 : decode cX1_write 11 = .ok (.bipush 32, 2) := by decide +kernel
theorem dX1_write_13 : decode cX1_write 13 = .ok (.invokevirtual 23, 3) := by decide +kernel
theorem dX1_write_16 : decode cX1_write 16 = .ok (.aload_n 0, 1) := by decide +kernel
theorem dX1_write_17 : decode cX1_write 17 = .ok (.iload_n 2, 1) := by decide +kernel
theorem dX1_write_18 : decode cX1_write 18 = .ok (.invokevirtual 26, 3) := by decide +kernel
theorem dX1_write_21 : decode cX1_write 21 = .ok (.aload_n 0, 1) := by decide +kernel
theorem dX1_write_22 : decode cX1_write 22 = .ok (.bipush 32, 2) := by decide +kernel
theorem dX1_write_24 : decode cX1_write 24 = .ok (.invokevirtual 23, 3) := by decide +kernel
theorem dX1_write_27 : decode cX1_write 27 = .ok (.aload_n 0, 1) := by decide +kernel
theorem dX1_write_28 : decode cX1_write 28 = .ok (.bipush 119, 2) := by decide +kernel
theorem dX1_write_30 : decode cX1_write 30 = .ok (.invokevirtual 23, 3) := by decide +kernel
theorem dX1_write_33 : decode cX1_write 33 = .ok (.aload_n 0, 1) := by decide +kernel
theorem dX1_write_34 : decode cX1_write 34 = .ok (.aload_n 3, 1) := by decide +kernel
theorem dX1_write_35 : decode cX1_write 35 = .ok (.getfield 29, 3) := by decide +kernel
theorem dX1_write_38 : decode cX1_write 38 = .ok (.invokevirtual 34, 3) := by decide +kernel
theorem dX1_write_41 : decode cX1_write 41 = .ok (.aload_n 0, 1) := by decide +kernel
theorem dX1_write_42 : decode cX1_write 42 = .ok (.bipush 32, 2) := by decide +kernel
theorem dX1_write_44 : decode cX1_write 44 = .ok (.invokevirtual 23, 3) := by decide +kernel
theorem dX1_write_47 : decode cX1_write 47 = .ok (.aload_n 0, 1) := by decide +kernel
theorem dX1_write_48 : decode cX1_write 48 = .ok (.bipush 114, 2) := by decide +kernel
theorem dX1_write_50 : decode cX1_write 50 = .ok (.invokevirtual 23, 3) := by decide +kernel
theorem dX1_write_53 : decode cX1_write 53 = .ok (.aload_n 0, 1) := by decide +kernel
theorem dX1_write_54 : decode cX1_write 54 = .ok (.aload_n 3, 1) := by decide +kernel
theorem dX1_write_55 : decode cX1_write 55 = .ok (.getfield 37, 3) := by decide +kernel
theorem dX1_write_58 : decode cX1_write 58 = .ok (.invokestatic 40, 3) := by decide +kernel
theorem dX1_write_61 : decode cX1_write 61 = .ok (.invokevirtual 34, 3) := by decide +kernel
theorem dX1_write_64 : decode cX1_write 64 = .ok (.aload_n 3, 1) := by decide +kernel
theorem dX1_write_65 : decode cX1_write 65 = .ok (.getfield 46, 3) := by decide +kernel
theorem dX1_write_68 : decode cX1_write 68 = .ok (.ifCond .eq 9, 3) := by decide +kernel
theorem dX1_write_71 : decode cX1_write 71 = .ok (.aload_n 0, 1) := by decide +kernel
theorem dX1_write_72 : decode cX1_write 72 = .ok (.ldc 50, 2) := by decide +kernel
theorem dX1_write_74 : decode cX1_write 74 = .ok (.invokevirtual 52, 3) := by decide +kernel
theorem dX1_write_77 : decode cX1_write 77 = .ok (.return_, 1) := by decide +kernel
def f_X1_write (N : Nat) (R : Nat → Nat → Nat) (σ : SI) (x0 : Nat) (x1 : Int32) (x2 : Int32) (x3 : Nat) : Option (Unit × SI) := sq (up σ x0 1 (0 : Int32)) (fun σ1 => bd (f_X1_addName N R σ1 x0 x1) (fun _ σ2 => bd (f_X1_add N R σ2 x0 (32 : Int32)) (fun _ σ3 => bd (f_X1_addTime N R σ3 x0 x2) (fun _ σ4 => bd (f_X1_add N R σ4 x0 (32 : Int32)) (fun _ σ5 => bd (f_X1_add N R σ5 x0 (119 : Int32)) (fun _ σ6 => bd (f_X1_addNumber N R σ6 x0 (σ6 x3 8)) (fun _ σ7 => bd (f_X1_add N R σ7 x0 (32 : Int32)) (fun _ σ8 => bd (f_X1_add N R σ8 x0 (114 : Int32)) (fun _ σ9 => bd (f_X1_addNumber N R σ9 x0 (bitC (σ9 x3 11))) (fun _ σ10 => if (σ10 x3 13) = 0 then (some ((), σ10)) else (bd (f_X1_addText N R σ10 x0 10) (fun _ σ12 => some ((), σ12)))))))))))))
set_option maxHeartbeats 4000000 in
set_option maxRecDepth 100000 in
theorem ok_X1_write {l : Launch} {g : GL} {R : Nat → Nat → Nat} {L : Nat → Nat → Int64} {N : Nat} {σ : SI} {x0 : Nat} {x1 : Int32} {x2 : Int32} {x3 : Nat} {r : (Unit × SI)} (h : f_X1_write N R σ x0 x1 x2 x3 = some r) (hSh : ShR R) (hx0 : Ok 194 x0 1) (hx3 : Ok 194 x3 0) : Ct l g 6 yX1_write cX1_write 4 none 194 194 0 0 [.ref (gb g + x0), .int x1, .int x2, .ref (gb g + x3)] (mkS σ R L) (PV R L r) := by
  refine Met.ofW (cc := cX1_write) (maxL := 4) (ret := none) (by decide) rfl ?_
  intro p e s m args below meth c s₁ B hml hv
  obtain ⟨rfl, hE, hLo, hWd⟩ := hv
  have hr : meth.sig.returnType = none := B.returns
  have C : Cx l g p s m meth c cX1_write 4 RX1 := ⟨B.exec, B.bytes, hml, findClass_of_methodNamed B.named, hE, hLo, B.notSynchronized⟩
  have S : S2 g s σ R L s.heap [] := ⟨hWd, va_S.rf⟩
  have hx := C.1
  have hb := C.2.1
  have hl := lv_entry ([.ref (gb g + x0), .int x1, .int x2, .ref (gb g + x3)]) (n := 4) (Nat.le_of_ble_eq_true rfl)
  rw [lg_entry_eq]
  generalize (lg_sl ([.ref (gb g + x0), .int x1, .int x2, .ref (gb g + x3)]) ++ List.replicate (4 - (lg_sl ([.ref (gb g + x0), .int x1, .int x2, .ref (gb g + x3)])).length) Slot.unset).toArray = ls at hl ⊢
  have hl : lv_has ls 4 [(0, .ref (gb g + x0)), (1, .int x1), (2, .int x2), (3, .ref (gb g + x3))] := hl
  generalize hH : s.heap = H at S ⊢
  generalize hlc : ([] : List Loc) = locs at S ⊢
  rw [f_X1_write] at h
  refine lv_aload_n hx hb dX1_write_0 rfl (lv_at hl 0 rfl) ?_
  refine lv_iconst (v := (0 : Int32)) hx hb dX1_write_1 (by decide) ?_
  obtain ⟨σ1, hs1, h⟩ := sq_el h
  refine x_putI C S KX1 hx0 1 (by decide) rfl rfl rfl ⟨rfl, rfl⟩ fl_RX1_15 dX1_write_2 hs1 (fun H locs S => ?_)
  refine lv_aload_n hx hb dX1_write_5 rfl (lv_at hl 0 rfl) ?_
  refine lv_iload_n hx hb dX1_write_6 rfl (lv_at hl 1 rfl) ?_
  obtain ⟨a2, σ2, hc2, h⟩ := bd_el h
  refine x_callVV C S KX1 hx0 (ok_X1_addName (L := L) hc2 hSh hx0) ⟨cd_X1_addName, ni_RX1, ml_RX1_19, in_X1_addName, sl_X1_addName⟩ ⟨by decide, by decide⟩ rfl (rm_ok (by decide) (by decide)) hl.1 rfl (Nat.le_of_ble_eq_true rfl) ⟨by decide, by decide⟩ dX1_write_7 (fun H locs S => ?_)
  refine lv_aload_n hx hb dX1_write_10 rfl (lv_at hl 0 rfl) ?_
  refine lv_bipush (v := (32 : Int32)) hx hb dX1_write_11 (by decide) ?_
  obtain ⟨a3, σ3, hc3, h⟩ := bd_el h
  refine x_callVV C S KX1 hx0 (ok_X1_add (L := L) hc3 hSh hx0) ⟨cd_X1_add, ni_RX1, ml_RX1_23, in_X1_add, sl_X1_add⟩ ⟨by decide, by decide⟩ rfl (rm_ok (by decide) (by decide)) hl.1 rfl (Nat.le_of_ble_eq_true rfl) ⟨by decide, by decide⟩ dX1_write_13 (fun H locs S => ?_)
  refine lv_aload_n hx hb dX1_write_16 rfl (lv_at hl 0 rfl) ?_
  refine lv_iload_n hx hb dX1_write_17 rfl (lv_at hl 2 rfl) ?_
  obtain ⟨a4, σ4, hc4, h⟩ := bd_el h
  refine x_callVV C S KX1 hx0 (ok_X1_addTime (L := L) hc4 hSh hx0) ⟨cd_X1_addTime, ni_RX1, ml_RX1_26, in_X1_addTime, sl_X1_addTime⟩ ⟨by decide, by decide⟩ rfl (rm_ok (by decide) (by decide)) hl.1 rfl (Nat.le_of_ble_eq_true rfl) ⟨by decide, by decide⟩ dX1_write_18 (fun H locs S => ?_)
  refine lv_aload_n hx hb dX1_write_21 rfl (lv_at hl 0 rfl) ?_
  refine lv_bipush (v := (32 : Int32)) hx hb dX1_write_22 (by decide) ?_
  obtain ⟨a5, σ5, hc5, h⟩ := bd_el h
  refine x_callVV C S KX1 hx0 (ok_X1_add (L := L) hc5 hSh hx0) ⟨cd_X1_add, ni_RX1, ml_RX1_23, in_X1_add, sl_X1_add⟩ ⟨by decide, by decide⟩ rfl (rm_ok (by decide) (by decide)) hl.1 rfl (Nat.le_of_ble_eq_true rfl) ⟨by decide, by decide⟩ dX1_write_24 (fun H locs S => ?_)
  refine lv_aload_n hx hb dX1_write_27 rfl (lv_at hl 0 rfl) ?_
  refine lv_bipush (v := (119 : Int32)) hx hb dX1_write_28 (by decide) ?_
  obtain ⟨a6, σ6, hc6, h⟩ := bd_el h
  refine x_callVV C S KX1 hx0 (ok_X1_add (L := L) hc6 hSh hx0) ⟨cd_X1_add, ni_RX1, ml_RX1_23, in_X1_add, sl_X1_add⟩ ⟨by decide, by decide⟩ rfl (rm_ok (by decide) (by decide)) hl.1 rfl (Nat.le_of_ble_eq_true rfl) ⟨by decide, by decide⟩ dX1_write_30 (fun H locs S => ?_)
  refine lv_aload_n hx hb dX1_write_33 rfl (lv_at hl 0 rfl) ?_
  refine lv_aload_n hx hb dX1_write_34 rfl (lv_at hl 3 rfl) ?_
  refine x_getI C S KX0 hx3 8 (by decide) rfl rfl fl_RX1_29 dX1_write_35 ?_
  obtain ⟨a7, σ7, hc7, h⟩ := bd_el h
  refine x_callVV C S KX1 hx0 (ok_X1_addNumber (L := L) hc7 hSh hx0) ⟨cd_X1_addNumber, ni_RX1, ml_RX1_34, in_X1_addNumber, sl_X1_addNumber⟩ ⟨by decide, by decide⟩ rfl (rm_ok (by decide) (by decide)) hl.1 rfl (Nat.le_of_ble_eq_true rfl) ⟨by decide, by decide⟩ dX1_write_38 (fun H locs S => ?_)
  refine lv_aload_n hx hb dX1_write_41 rfl (lv_at hl 0 rfl) ?_
  refine lv_bipush (v := (32 : Int32)) hx hb dX1_write_42 (by decide) ?_
  obtain ⟨a8, σ8, hc8, h⟩ := bd_el h
  refine x_callVV C S KX1 hx0 (ok_X1_add (L := L) hc8 hSh hx0) ⟨cd_X1_add, ni_RX1, ml_RX1_23, in_X1_add, sl_X1_add⟩ ⟨by decide, by decide⟩ rfl (rm_ok (by decide) (by decide)) hl.1 rfl (Nat.le_of_ble_eq_true rfl) ⟨by decide, by decide⟩ dX1_write_44 (fun H locs S => ?_)
  refine lv_aload_n hx hb dX1_write_47 rfl (lv_at hl 0 rfl) ?_
  refine lv_bipush (v := (114 : Int32)) hx hb dX1_write_48 (by decide) ?_
  obtain ⟨a9, σ9, hc9, h⟩ := bd_el h
  refine x_callVV C S KX1 hx0 (ok_X1_add (L := L) hc9 hSh hx0) ⟨cd_X1_add, ni_RX1, ml_RX1_23, in_X1_add, sl_X1_add⟩ ⟨by decide, by decide⟩ rfl (rm_ok (by decide) (by decide)) hl.1 rfl (Nat.le_of_ble_eq_true rfl) ⟨by decide, by decide⟩ dX1_write_50 (fun H locs S => ?_)
  refine lv_aload_n hx hb dX1_write_53 rfl (lv_at hl 0 rfl) ?_
  refine lv_aload_n hx hb dX1_write_54 rfl (lv_at hl 3 rfl) ?_
  refine x_getI C S KX0 hx3 11 (by decide) rfl rfl fl_RX1_37 dX1_write_55 ?_
  refine x_callSI C S (ok_bitCount (L := L)) ⟨jc_bitCount, jn_RJ6, ml_RX1_40, jt_bitCount⟩ ⟨by decide, by decide⟩ rfl (rm_ok (by decide) (by decide)) hl.1 rfl (Nat.le_of_ble_eq_true rfl) ⟨by decide, by decide⟩ dX1_write_58 (fun H locs S => ?_)
  obtain ⟨a10, σ10, hc10, h⟩ := bd_el h
  refine x_callVV C S KX1 hx0 (ok_X1_addNumber (L := L) hc10 hSh hx0) ⟨cd_X1_addNumber, ni_RX1, ml_RX1_34, in_X1_addNumber, sl_X1_addNumber⟩ ⟨by decide, by decide⟩ rfl (rm_ok (by decide) (by decide)) hl.1 rfl (Nat.le_of_ble_eq_true rfl) ⟨by decide, by decide⟩ dX1_write_61 (fun H locs S => ?_)
  refine lv_aload_n hx hb dX1_write_64 rfl (lv_at hl 3 rfl) ?_
  refine x_getI C S KX0 hx3 13 (by decide) rfl rfl fl_RX1_46 dX1_write_65 ?_
  refine lv_if_eq (tgt := 77) hx hb dX1_write_68 (by decide) (fun c11 => ?_) (fun c11 => ?_)
  · have h := it_p c11 h
    exact x_vret C S hr h dX1_write_77
  · have h := it_n c11 h
    refine lv_aload_n hx hb dX1_write_71 rfl (lv_at hl 0 rfl) ?_
    refine x_ldcs C (k := 50) (tx := " fired") (ia := 10) (by decide) dX1_write_72 ?_
    obtain ⟨a12, σ12, hc12, h⟩ := bd_el h
    refine x_callVV C S KX1 hx0 (ok_X1_addText (L := L) hc12 hSh hx0 (by decide)) ⟨cd_X1_addText, ni_RX1, ml_RX1_52, in_X1_addText, sl_X1_addText⟩ ⟨by decide, by decide⟩ rfl (rm_ok (by decide) (by decide)) hl.1 rfl (Nat.le_of_ble_eq_true rfl) ⟨by decide, by decide⟩ dX1_write_74 (fun H locs S => ?_)
    exact x_vret C S hr h dX1_write_77
theorem dX5_parseWindow_0 : decode cX5_parseWindow 0 = .ok (.aload_n 1, 1) := by decide +kernel
theorem dX5_parseWindow_1 : decode cX5_parseWindow 1 = .ok (.getfield 142, 3) := by decide +kernel
theorem dX5_parseWindow_4 : decode cX5_parseWindow 4 = .ok (.iconst 4, 1) := by decide +kernel
theorem dX5_parseWindow_5 : decode cX5_parseWindow 5 = .ok (.if_icmp .lt 19, 3) := by decide +kernel
theorem dX5_parseWindow_8 : decode cX5_parseWindow 8 = .ok (.aload_n 0, 1) := by decide +kernel
theorem dX5_parseWindow_9 : decode cX5_parseWindow 9 = .ok (.getfield 12, 3) := by decide +kernel
theorem dX5_parseWindow_12 : decode cX5_parseWindow 12 = .ok (.aload_n 0, 1) := by decide +kernel
theorem dX5_parseWindow_13 : decode cX5_parseWindow 13 = .ok (.getfield 12, 3) := by decide +kernel
theorem dX5_parseWindow_16 : decode cX5_parseWindow 16 = .ok (.getfield 44, 3) := by decide +kernel
theorem dX5_parseWindow_19 : decode cX5_parseWindow 19 = .ok (.iconst 4, 1) := by decide +kernel
theorem dX5_parseWindow_20 : decode cX5_parseWindow 20 = .ok (.invokevirtual 115, 3) := by decide +kernel
theorem dX5_parseWindow_23 : decode cX5_parseWindow 23 = .ok (.return_, 1) := by decide +kernel
theorem dX5_parseWindow_24 : decode cX5_parseWindow 24 = .ok (.aload_n 0, 1) := by decide +kernel
theorem dX5_parseWindow_25 : decode cX5_parseWindow 25 = .ok (.getfield 12, 3) := by decide +kernel
theorem dX5_parseWindow_28 : decode cX5_parseWindow 28 = .ok (.iconst 0, 1) := by decide +kernel
theorem dX5_parseWindow_29 : decode cX5_parseWindow 29 = .ok (.sipush 1439, 3) := by decide +kernel
theorem dX5_parseWindow_32 : decode cX5_parseWindow 32 = .ok (.invokevirtual 73, 3) := by decide +kernel
theorem dX5_parseWindow_35 : decode cX5_parseWindow 35 = .ok (.istore_n 2, 1) := by decide +kernel
theorem dX5_parseWindow_36 : decode cX5_parseWindow 36 = .ok (.aload_n 0, 1) := by decide +kernel
theorem dX5_parseWindow_37 : decode cX5_parseWindow 37 = .ok (.getfield 12, 3) := by decide +kernel
theorem dX5_parseWindow_40 : decode cX5_parseWindow 40 = .ok (.aload_n 0, 1) := by decide +kernel
theorem dX5_parseWindow_41 : decode cX5_parseWindow 41 = .ok (.getfield 12, 3) := by decide +kernel
theorem dX5_parseWindow_44 : decode cX5_parseWindow 44 = .ok (.ldc 152, 2) := by decide +kernel
theorem dX5_parseWindow_46 : decode cX5_parseWindow 46 = .ok (.invokevirtual 50, 3) := by decide +kernel
theorem dX5_parseWindow_49 : decode cX5_parseWindow 49 = .ok (.invokevirtual 40, 3) := by decide +kernel
theorem dX5_parseWindow_52 : decode cX5_parseWindow 52 = .ok (.aload_n 0, 1) := by decide +kernel
theorem dX5_parseWindow_53 : decode cX5_parseWindow 53 = .ok (.getfield 12, 3) := by decide +kernel
theorem dX5_parseWindow_56 : decode cX5_parseWindow 56 = .ok (.iload_n 2, 1) := by decide +kernel
theorem dX5_parseWindow_57 : decode cX5_parseWindow 57 = .ok (.iconst 1, 1) := by decide +kernel
theorem dX5_parseWindow_58 : decode cX5_parseWindow 58 = .ok (.iadd, 1) := by decide +kernel
theorem dX5_parseWindow_59 : decode cX5_parseWindow 59 = .ok (.sipush 1440, 3) := by decide +kernel
theorem dX5_parseWindow_62 : decode cX5_parseWindow 62 = .ok (.invokevirtual 73, 3) := by decide +kernel
theorem dX5_parseWindow_65 : decode cX5_parseWindow 65 = .ok (.istore_n 3, 1) := by decide +kernel
theorem dX5_parseWindow_66 : decode cX5_parseWindow 66 = .ok (.aload_n 1, 1) := by decide +kernel
theorem dX5_parseWindow_67 : decode cX5_parseWindow 67 = .ok (.iload_n 2, 1) := by decide +kernel
theorem dX5_parseWindow_68 : decode cX5_parseWindow 68 = .ok (.iload_n 3, 1) := by decide +kernel
theorem dX5_parseWindow_69 : decode cX5_parseWindow 69 = .ok (.invokevirtual 154, 3) := by decide +kernel
theorem dX5_parseWindow_72 : decode cX5_parseWindow 72 = .ok (.return_, 1) := by decide +kernel
def f_X5_parseWindow (N : Nat) (R : Nat → Nat → Nat) (σ : SI) (x0 : Nat) (x1 : Nat) : Option (Unit × SI) := if (σ x1 5) < (4 : Int32) then (bd (f_X10_takeNumber N R σ (R x0 0) (0 : Int32) (1439 : Int32)) (fun a3 σ3 => bd (f_X10_tookWord N R σ3 (R x0 0) 1) (fun a6 σ6 => bd (f_X10_need N R σ6 (R x0 0) a6) (fun _ σ7 => bd (f_X10_takeNumber N R σ7 (R x0 0) (a3 + (1 : Int32)) (1440 : Int32)) (fun a9 σ9 => bd (f_X4_addWindow N R σ9 x1 a3 a9) (fun _ σ10 => some ((), σ10))))))) else (bd (f_X10_fail N R σ (R x0 0) (σ (R x0 0) 2) (4 : Int32)) (fun _ σ13 => some ((), σ13)))
set_option maxHeartbeats 4000000 in
set_option maxRecDepth 100000 in
theorem ok_X5_parseWindow {l : Launch} {g : GL} {R : Nat → Nat → Nat} {L : Nat → Nat → Int64} {N : Nat} {σ : SI} {x0 : Nat} {x1 : Nat} {r : (Unit × SI)} (h : f_X5_parseWindow N R σ x0 x1 = some r) (hSh : ShR R) (hx0 : Ok 194 x0 5) (hx1 : Ok 194 x1 4) : Ct l g 6 yX5_parseWindow cX5_parseWindow 4 none 194 194 0 0 [.ref (gb g + x0), .ref (gb g + x1)] (mkS σ R L) (PV R L r) := by
  refine Met.ofW (cc := cX5_parseWindow) (maxL := 4) (ret := none) (by decide) rfl ?_
  intro p e s m args below meth c s₁ B hml hv
  obtain ⟨rfl, hE, hLo, hWd⟩ := hv
  have hr : meth.sig.returnType = none := B.returns
  have C : Cx l g p s m meth c cX5_parseWindow 4 RX5 := ⟨B.exec, B.bytes, hml, findClass_of_methodNamed B.named, hE, hLo, B.notSynchronized⟩
  have S : S2 g s σ R L s.heap [] := ⟨hWd, va_S.rf⟩
  have hx := C.1
  have hb := C.2.1
  have hl := lv_entry ([.ref (gb g + x0), .ref (gb g + x1)]) (n := 4) (Nat.le_of_ble_eq_true rfl)
  rw [lg_entry_eq]
  generalize (lg_sl ([.ref (gb g + x0), .ref (gb g + x1)]) ++ List.replicate (4 - (lg_sl ([.ref (gb g + x0), .ref (gb g + x1)])).length) Slot.unset).toArray = ls at hl ⊢
  have hl : lv_has ls 4 [(0, .ref (gb g + x0)), (1, .ref (gb g + x1))] := hl
  generalize hH : s.heap = H at S ⊢
  generalize hlc : ([] : List Loc) = locs at S ⊢
  rw [f_X5_parseWindow] at h
  refine lv_aload_n hx hb dX5_parseWindow_0 rfl (lv_at hl 1 rfl) ?_
  refine x_getI C S KX4 hx1 5 (by decide) rfl rfl fl_RX5_142 dX5_parseWindow_1 ?_
  refine lv_iconst (v := (4 : Int32)) hx hb dX5_parseWindow_4 (by decide) ?_
  refine lv_icmp_lt (tgt := 24) hx hb dX5_parseWindow_5 (by decide) (fun c1 => ?_) (fun c1 => ?_)
  · have h := it_p c1 h
    refine lv_aload_n hx hb dX5_parseWindow_24 rfl (lv_at hl 0 rfl) ?_
    have hR2 : Ok 194 (R x0 0) 10 := hSh x0 5 0 10 hx0.1 rfl
    refine x_getR C S KX5 hx0 0 (by decide) rfl rfl fl_RX5_12 hR2 dX5_parseWindow_25 ?_
    refine lv_iconst (v := (0 : Int32)) hx hb dX5_parseWindow_28 (by decide) ?_
    refine lv_sipush (v := (1439 : Int32)) hx hb dX5_parseWindow_29 (by decide) ?_
    obtain ⟨a3, σ3, hc3, h⟩ := bd_el h
    refine x_callVI C S KX10 hR2 (ok_X10_takeNumber (L := L) hc3 hSh hR2) ⟨cd_X10_takeNumber, ni_RX10, ml_RX5_73, in_X10_takeNumber, sl_X10_takeNumber⟩ ⟨by decide, by decide⟩ rfl (rm_ok (by decide) (by decide)) hl.1 rfl (Nat.le_of_ble_eq_true rfl) ⟨by decide, by decide⟩ dX5_parseWindow_32 (fun H locs S => ?_)
    refine lv_istore_n (lv' := [(2, .int a3), (0, .ref (gb g + x0)), (1, .ref (gb g + x1))]) hx hb dX5_parseWindow_35 rfl hl (by decide) rfl (fun ls hl => ?_)
    refine lv_aload_n hx hb dX5_parseWindow_36 rfl (lv_at hl 1 rfl) ?_
    have hR4 : Ok 194 (R x0 0) 10 := hSh x0 5 0 10 hx0.1 rfl
    refine x_getR C S KX5 hx0 0 (by decide) rfl rfl fl_RX5_12 hR4 dX5_parseWindow_37 ?_
    refine lv_aload_n hx hb dX5_parseWindow_40 rfl (lv_at hl 1 rfl) ?_
    have hR5 : Ok 194 (R x0 0) 10 := hSh x0 5 0 10 hx0.1 rfl
    refine x_getR C S KX5 hx0 0 (by decide) rfl rfl fl_RX5_12 hR5 dX5_parseWindow_41 ?_
    refine x_ldcs C (k := 152) (tx := "to") (ia := 1) (by decide) dX5_parseWindow_44 ?_
    obtain ⟨a6, σ6, hc6, h⟩ := bd_el h
    refine x_callVI C S KX10 hR5 (ok_X10_tookWord (L := L) hc6 hSh hR5 (by decide)) ⟨cd_X10_tookWord, ni_RX10, ml_RX5_50, in_X10_tookWord, sl_X10_tookWord⟩ ⟨by decide, by decide⟩ rfl (rm_ok (by decide) (by decide)) hl.1 rfl (Nat.le_of_ble_eq_true rfl) ⟨by decide, by decide⟩ dX5_parseWindow_46 (fun H locs S => ?_)
    obtain ⟨a7, σ7, hc7, h⟩ := bd_el h
    refine x_callVV C S KX10 hR4 (ok_X10_need (L := L) hc7 hSh hR4) ⟨cd_X10_need, ni_RX10, ml_RX5_40, in_X10_need, sl_X10_need⟩ ⟨by decide, by decide⟩ rfl (rm_ok (by decide) (by decide)) hl.1 rfl (Nat.le_of_ble_eq_true rfl) ⟨by decide, by decide⟩ dX5_parseWindow_49 (fun H locs S => ?_)
    refine lv_aload_n hx hb dX5_parseWindow_52 rfl (lv_at hl 1 rfl) ?_
    have hR8 : Ok 194 (R x0 0) 10 := hSh x0 5 0 10 hx0.1 rfl
    refine x_getR C S KX5 hx0 0 (by decide) rfl rfl fl_RX5_12 hR8 dX5_parseWindow_53 ?_
    refine lv_iload_n hx hb dX5_parseWindow_56 rfl (lv_at hl 0 rfl) ?_
    refine lv_iconst (v := (1 : Int32)) hx hb dX5_parseWindow_57 (by decide) ?_
    refine lv_iadd hx hb dX5_parseWindow_58 ?_
    refine lv_sipush (v := (1440 : Int32)) hx hb dX5_parseWindow_59 (by decide) ?_
    obtain ⟨a9, σ9, hc9, h⟩ := bd_el h
    refine x_callVI C S KX10 hR8 (ok_X10_takeNumber (L := L) hc9 hSh hR8) ⟨cd_X10_takeNumber, ni_RX10, ml_RX5_73, in_X10_takeNumber, sl_X10_takeNumber⟩ ⟨by decide, by decide⟩ rfl (rm_ok (by decide) (by decide)) hl.1 rfl (Nat.le_of_ble_eq_true rfl) ⟨by decide, by decide⟩ dX5_parseWindow_62 (fun H locs S => ?_)
    refine lv_istore_n (lv' := [(3, .int a9), (2, .int a3), (0, .ref (gb g + x0)), (1, .ref (gb g + x1))]) hx hb dX5_parseWindow_65 rfl hl (by decide) rfl (fun ls hl => ?_)
    refine lv_aload_n hx hb dX5_parseWindow_66 rfl (lv_at hl 3 rfl) ?_
    refine lv_iload_n hx hb dX5_parseWindow_67 rfl (lv_at hl 1 rfl) ?_
    refine lv_iload_n hx hb dX5_parseWindow_68 rfl (lv_at hl 0 rfl) ?_
    obtain ⟨a10, σ10, hc10, h⟩ := bd_el h
    refine x_callVV C S KX4 hx1 (ok_X4_addWindow (L := L) hc10 hSh hx1) ⟨cd_X4_addWindow, ni_RX4, ml_RX5_154, in_X4_addWindow, sl_X4_addWindow⟩ ⟨by decide, by decide⟩ rfl (rm_ok (by decide) (by decide)) hl.1 rfl (Nat.le_of_ble_eq_true rfl) ⟨by decide, by decide⟩ dX5_parseWindow_69 (fun H locs S => ?_)
    exact x_vret C S hr h dX5_parseWindow_72
  · have h := it_n c1 h
    refine lv_aload_n hx hb dX5_parseWindow_8 rfl (lv_at hl 0 rfl) ?_
    have hR11 : Ok 194 (R x0 0) 10 := hSh x0 5 0 10 hx0.1 rfl
    refine x_getR C S KX5 hx0 0 (by decide) rfl rfl fl_RX5_12 hR11 dX5_parseWindow_9 ?_
    refine lv_aload_n hx hb dX5_parseWindow_12 rfl (lv_at hl 0 rfl) ?_
    have hR12 : Ok 194 (R x0 0) 10 := hSh x0 5 0 10 hx0.1 rfl
    refine x_getR C S KX5 hx0 0 (by decide) rfl rfl fl_RX5_12 hR12 dX5_parseWindow_13 ?_
    refine x_getI C S KX10 hR12 2 (by decide) rfl rfl fl_RX5_44 dX5_parseWindow_16 ?_
    refine lv_iconst (v := (4 : Int32)) hx hb dX5_parseWindow_19 (by decide) ?_
    obtain ⟨a13, σ13, hc13, h⟩ := bd_el h
    refine x_callVV C S KX10 hR11 (ok_X10_fail (L := L) hc13 hSh hR11) ⟨cd_X10_fail, ni_RX10, ml_RX5_115, in_X10_fail, sl_X10_fail⟩ ⟨by decide, by decide⟩ rfl (rm_ok (by decide) (by decide)) hl.1 rfl (Nat.le_of_ble_eq_true rfl) ⟨by decide, by decide⟩ dX5_parseWindow_20 (fun H locs S => ?_)
    exact x_vret C S hr h dX5_parseWindow_23
theorem dX5_parseCharge_0 : decode cX5_parseCharge 0 = .ok (.aload_n 1, 1) := by decide +kernel
theorem dX5_parseCharge_1 : decode cX5_parseCharge 1 = .ok (.getfield 202, 3) := by decide +kernel
theorem dX5_parseCharge_4 : decode cX5_parseCharge 4 = .ok (.bipush 12, 2) := by decide +kernel
theorem dX5_parseCharge_6 : decode cX5_parseCharge 6 = .ok (.if_icmp .lt 19, 3) := by decide +kernel
theorem dX5_parseCharge_9 : decode cX5_parseCharge 9 = .ok (.aload_n 0, 1) := by decide +kernel
theorem dX5_parseCharge_10 : decode cX5_parseCharge 10 = .ok (.getfield 12, 3) := by decide +kernel
theorem dX5_parseCharge_13 : decode cX5_parseCharge 13 = .ok (.aload_n 0, 1) := by decide +kernel
theorem dX5_parseCharge_14 : decode cX5_parseCharge 14 = .ok (.getfield 12, 3) := by decide +kernel
theorem dX5_parseCharge_17 : decode cX5_parseCharge 17 = .ok (.getfield 44, 3) := by decide +kernel
theorem dX5_parseCharge_20 : decode cX5_parseCharge 20 = .ok (.iconst 4, 1) := by decide +kernel
theorem dX5_parseCharge_21 : decode cX5_parseCharge 21 = .ok (.invokevirtual 115, 3) := by decide +kernel
theorem dX5_parseCharge_24 : decode cX5_parseCharge 24 = .ok (.return_, 1) := by decide +kernel
theorem dX5_parseCharge_25 : decode cX5_parseCharge 25 = .ok (.aload_n 0, 1) := by decide +kernel
theorem dX5_parseCharge_26 : decode cX5_parseCharge 26 = .ok (.getfield 12, 3) := by decide +kernel
theorem dX5_parseCharge_29 : decode cX5_parseCharge 29 = .ok (.iconst 1, 1) := by decide +kernel
theorem dX5_parseCharge_30 : decode cX5_parseCharge 30 = .ok (.sipush 999, 3) := by decide +kernel
theorem dX5_parseCharge_33 : decode cX5_parseCharge 33 = .ok (.invokevirtual 73, 3) := by decide +kernel
theorem dX5_parseCharge_36 : decode cX5_parseCharge 36 = .ok (.istore_n 2, 1) := by decide +kernel
theorem dX5_parseCharge_37 : decode cX5_parseCharge 37 = .ok (.aload_n 0, 1) := by decide +kernel
theorem dX5_parseCharge_38 : decode cX5_parseCharge 38 = .ok (.getfield 12, 3) := by decide +kernel
theorem dX5_parseCharge_41 : decode cX5_parseCharge 41 = .ok (.aload_n 0, 1) := by decide +kernel
theorem dX5_parseCharge_42 : decode cX5_parseCharge 42 = .ok (.getfield 12, 3) := by decide +kernel
theorem dX5_parseCharge_45 : decode cX5_parseCharge 45 = .ok (.ldc 209, 2) := by decide +kernel
theorem dX5_parseCharge_47 : decode cX5_parseCharge 47 = .ok (.invokevirtual 50, 3) := by decide +kernel
theorem dX5_parseCharge_50 : decode cX5_parseCharge 50 = .ok (.invokevirtual 40, 3) := by decide +kernel
theorem dX5_parseCharge_53 : decode cX5_parseCharge 53 = .ok (.aload_n 0, 1) := by decide +kernel
theorem dX5_parseCharge_54 : decode cX5_parseCharge 54 = .ok (.getfield 12, 3) := by decide +kernel
theorem dX5_parseCharge_57 : decode cX5_parseCharge 57 = .ok (.iconst 0, 1) := by decide +kernel
theorem dX5_parseCharge_58 : decode cX5_parseCharge 58 = .ok (.sipush 9999, 3) := by decide +kernel
theorem dX5_parseCharge_61 : decode cX5_parseCharge 61 = .ok (.invokevirtual 73, 3) := by decide +kernel
theorem dX5_parseCharge_64 : decode cX5_parseCharge 64 = .ok (.istore_n 3, 1) := by decide +kernel
theorem dX5_parseCharge_65 : decode cX5_parseCharge 65 = .ok (.aload_n 1, 1) := by decide +kernel
theorem dX5_parseCharge_66 : decode cX5_parseCharge 66 = .ok (.iload_n 2, 1) := by decide +kernel
theorem dX5_parseCharge_67 : decode cX5_parseCharge 67 = .ok (.iload_n 3, 1) := by decide +kernel
theorem dX5_parseCharge_68 : decode cX5_parseCharge 68 = .ok (.invokevirtual 211, 3) := by decide +kernel
theorem dX5_parseCharge_71 : decode cX5_parseCharge 71 = .ok (.return_, 1) := by decide +kernel
def f_X5_parseCharge (N : Nat) (R : Nat → Nat → Nat) (σ : SI) (x0 : Nat) (x1 : Nat) : Option (Unit × SI) := if (σ x1 7) < (12 : Int32) then (bd (f_X10_takeNumber N R σ (R x0 0) (1 : Int32) (999 : Int32)) (fun a3 σ3 => bd (f_X10_tookWord N R σ3 (R x0 0) 4) (fun a6 σ6 => bd (f_X10_need N R σ6 (R x0 0) a6) (fun _ σ7 => bd (f_X10_takeNumber N R σ7 (R x0 0) (0 : Int32) (9999 : Int32)) (fun a9 σ9 => bd (f_X0_addCharge N R σ9 x1 a3 a9) (fun _ σ10 => some ((), σ10))))))) else (bd (f_X10_fail N R σ (R x0 0) (σ (R x0 0) 2) (4 : Int32)) (fun _ σ13 => some ((), σ13)))
set_option maxHeartbeats 4000000 in
set_option maxRecDepth 100000 in
theorem ok_X5_parseCharge {l : Launch} {g : GL} {R : Nat → Nat → Nat} {L : Nat → Nat → Int64} {N : Nat} {σ : SI} {x0 : Nat} {x1 : Nat} {r : (Unit × SI)} (h : f_X5_parseCharge N R σ x0 x1 = some r) (hSh : ShR R) (hx0 : Ok 194 x0 5) (hx1 : Ok 194 x1 0) : Ct l g 6 yX5_parseCharge cX5_parseCharge 4 none 194 194 0 0 [.ref (gb g + x0), .ref (gb g + x1)] (mkS σ R L) (PV R L r) := by
  refine Met.ofW (cc := cX5_parseCharge) (maxL := 4) (ret := none) (by decide) rfl ?_
  intro p e s m args below meth c s₁ B hml hv
  obtain ⟨rfl, hE, hLo, hWd⟩ := hv
  have hr : meth.sig.returnType = none := B.returns
  have C : Cx l g p s m meth c cX5_parseCharge 4 RX5 := ⟨B.exec, B.bytes, hml, findClass_of_methodNamed B.named, hE, hLo, B.notSynchronized⟩
  have S : S2 g s σ R L s.heap [] := ⟨hWd, va_S.rf⟩
  have hx := C.1
  have hb := C.2.1
  have hl := lv_entry ([.ref (gb g + x0), .ref (gb g + x1)]) (n := 4) (Nat.le_of_ble_eq_true rfl)
  rw [lg_entry_eq]
  generalize (lg_sl ([.ref (gb g + x0), .ref (gb g + x1)]) ++ List.replicate (4 - (lg_sl ([.ref (gb g + x0), .ref (gb g + x1)])).length) Slot.unset).toArray = ls at hl ⊢
  have hl : lv_has ls 4 [(0, .ref (gb g + x0)), (1, .ref (gb g + x1))] := hl
  generalize hH : s.heap = H at S ⊢
  generalize hlc : ([] : List Loc) = locs at S ⊢
  rw [f_X5_parseCharge] at h
  refine lv_aload_n hx hb dX5_parseCharge_0 rfl (lv_at hl 1 rfl) ?_
  refine x_getI C S KX0 hx1 7 (by decide) rfl rfl fl_RX5_202 dX5_parseCharge_1 ?_
  refine lv_bipush (v := (12 : Int32)) hx hb dX5_parseCharge_4 (by decide) ?_
  refine lv_icmp_lt (tgt := 25) hx hb dX5_parseCharge_6 (by decide) (fun c1 => ?_) (fun c1 => ?_)
  · have h := it_p c1 h
    refine lv_aload_n hx hb dX5_parseCharge_25 rfl (lv_at hl 0 rfl) ?_
    have hR2 : Ok 194 (R x0 0) 10 := hSh x0 5 0 10 hx0.1 rfl
    refine x_getR C S KX5 hx0 0 (by decide) rfl rfl fl_RX5_12 hR2 dX5_parseCharge_26 ?_
    refine lv_iconst (v := (1 : Int32)) hx hb dX5_parseCharge_29 (by decide) ?_
    refine lv_sipush (v := (999 : Int32)) hx hb dX5_parseCharge_30 (by decide) ?_
    obtain ⟨a3, σ3, hc3, h⟩ := bd_el h
    refine x_callVI C S KX10 hR2 (ok_X10_takeNumber (L := L) hc3 hSh hR2) ⟨cd_X10_takeNumber, ni_RX10, ml_RX5_73, in_X10_takeNumber, sl_X10_takeNumber⟩ ⟨by decide, by decide⟩ rfl (rm_ok (by decide) (by decide)) hl.1 rfl (Nat.le_of_ble_eq_true rfl) ⟨by decide, by decide⟩ dX5_parseCharge_33 (fun H locs S => ?_)
    refine lv_istore_n (lv' := [(2, .int a3), (0, .ref (gb g + x0)), (1, .ref (gb g + x1))]) hx hb dX5_parseCharge_36 rfl hl (by decide) rfl (fun ls hl => ?_)
    refine lv_aload_n hx hb dX5_parseCharge_37 rfl (lv_at hl 1 rfl) ?_
    have hR4 : Ok 194 (R x0 0) 10 := hSh x0 5 0 10 hx0.1 rfl
    refine x_getR C S KX5 hx0 0 (by decide) rfl rfl fl_RX5_12 hR4 dX5_parseCharge_38 ?_
    refine lv_aload_n hx hb dX5_parseCharge_41 rfl (lv_at hl 1 rfl) ?_
    have hR5 : Ok 194 (R x0 0) 10 := hSh x0 5 0 10 hx0.1 rfl
    refine x_getR C S KX5 hx0 0 (by decide) rfl rfl fl_RX5_12 hR5 dX5_parseCharge_42 ?_
    refine x_ldcs C (k := 209) (tx := "at") (ia := 4) (by decide) dX5_parseCharge_45 ?_
    obtain ⟨a6, σ6, hc6, h⟩ := bd_el h
    refine x_callVI C S KX10 hR5 (ok_X10_tookWord (L := L) hc6 hSh hR5 (by decide)) ⟨cd_X10_tookWord, ni_RX10, ml_RX5_50, in_X10_tookWord, sl_X10_tookWord⟩ ⟨by decide, by decide⟩ rfl (rm_ok (by decide) (by decide)) hl.1 rfl (Nat.le_of_ble_eq_true rfl) ⟨by decide, by decide⟩ dX5_parseCharge_47 (fun H locs S => ?_)
    obtain ⟨a7, σ7, hc7, h⟩ := bd_el h
    refine x_callVV C S KX10 hR4 (ok_X10_need (L := L) hc7 hSh hR4) ⟨cd_X10_need, ni_RX10, ml_RX5_40, in_X10_need, sl_X10_need⟩ ⟨by decide, by decide⟩ rfl (rm_ok (by decide) (by decide)) hl.1 rfl (Nat.le_of_ble_eq_true rfl) ⟨by decide, by decide⟩ dX5_parseCharge_50 (fun H locs S => ?_)
    refine lv_aload_n hx hb dX5_parseCharge_53 rfl (lv_at hl 1 rfl) ?_
    have hR8 : Ok 194 (R x0 0) 10 := hSh x0 5 0 10 hx0.1 rfl
    refine x_getR C S KX5 hx0 0 (by decide) rfl rfl fl_RX5_12 hR8 dX5_parseCharge_54 ?_
    refine lv_iconst (v := (0 : Int32)) hx hb dX5_parseCharge_57 (by decide) ?_
    refine lv_sipush (v := (9999 : Int32)) hx hb dX5_parseCharge_58 (by decide) ?_
    obtain ⟨a9, σ9, hc9, h⟩ := bd_el h
    refine x_callVI C S KX10 hR8 (ok_X10_takeNumber (L := L) hc9 hSh hR8) ⟨cd_X10_takeNumber, ni_RX10, ml_RX5_73, in_X10_takeNumber, sl_X10_takeNumber⟩ ⟨by decide, by decide⟩ rfl (rm_ok (by decide) (by decide)) hl.1 rfl (Nat.le_of_ble_eq_true rfl) ⟨by decide, by decide⟩ dX5_parseCharge_61 (fun H locs S => ?_)
    refine lv_istore_n (lv' := [(3, .int a9), (2, .int a3), (0, .ref (gb g + x0)), (1, .ref (gb g + x1))]) hx hb dX5_parseCharge_64 rfl hl (by decide) rfl (fun ls hl => ?_)
    refine lv_aload_n hx hb dX5_parseCharge_65 rfl (lv_at hl 3 rfl) ?_
    refine lv_iload_n hx hb dX5_parseCharge_66 rfl (lv_at hl 1 rfl) ?_
    refine lv_iload_n hx hb dX5_parseCharge_67 rfl (lv_at hl 0 rfl) ?_
    obtain ⟨a10, σ10, hc10, h⟩ := bd_el h
    refine x_callVV C S KX0 hx1 (ok_X0_addCharge (L := L) hc10 hSh hx1) ⟨cd_X0_addCharge, ni_RX0, ml_RX5_211, in_X0_addCharge, sl_X0_addCharge⟩ ⟨by decide, by decide⟩ rfl (rm_ok (by decide) (by decide)) hl.1 rfl (Nat.le_of_ble_eq_true rfl) ⟨by decide, by decide⟩ dX5_parseCharge_68 (fun H locs S => ?_)
    exact x_vret C S hr h dX5_parseCharge_71
  · have h := it_n c1 h
    refine lv_aload_n hx hb dX5_parseCharge_9 rfl (lv_at hl 0 rfl) ?_
    have hR11 : Ok 194 (R x0 0) 10 := hSh x0 5 0 10 hx0.1 rfl
    refine x_getR C S KX5 hx0 0 (by decide) rfl rfl fl_RX5_12 hR11 dX5_parseCharge_10 ?_
    refine lv_aload_n hx hb dX5_parseCharge_13 rfl (lv_at hl 0 rfl) ?_
    have hR12 : Ok 194 (R x0 0) 10 := hSh x0 5 0 10 hx0.1 rfl
    refine x_getR C S KX5 hx0 0 (by decide) rfl rfl fl_RX5_12 hR12 dX5_parseCharge_14 ?_
    refine x_getI C S KX10 hR12 2 (by decide) rfl rfl fl_RX5_44 dX5_parseCharge_17 ?_
    refine lv_iconst (v := (4 : Int32)) hx hb dX5_parseCharge_20 (by decide) ?_
    obtain ⟨a13, σ13, hc13, h⟩ := bd_el h
    refine x_callVV C S KX10 hR11 (ok_X10_fail (L := L) hc13 hSh hR11) ⟨cd_X10_fail, ni_RX10, ml_RX5_115, in_X10_fail, sl_X10_fail⟩ ⟨by decide, by decide⟩ rfl (rm_ok (by decide) (by decide)) hl.1 rfl (Nat.le_of_ble_eq_true rfl) ⟨by decide, by decide⟩ dX5_parseCharge_21 (fun H locs S => ?_)
    exact x_vret C S hr h dX5_parseCharge_24
theorem dX11_earliest_0 : decode cX11_earliest 0 = .ok (.aload_n 0, 1) := by decide +kernel
theorem dX11_earliest_1 : decode cX11_earliest 1 = .ok (.iload_n 1, 1) := by decide +kernel
theorem dX11_earliest_2 : decode cX11_earliest 2 = .ok (.invokevirtual 225, 3) := by decide +kernel
theorem dX11_earliest_5 : decode cX11_earliest 5 = .ok (.aload_n 0, 1) := by decide +kernel
theorem dX11_earliest_6 : decode cX11_earliest 6 = .ok (.iload_n 2, 1) := by decide +kernel
theorem dX11_earliest_7 : decode cX11_earliest 7 = .ok (.iconst 0, 1) := by decide +kernel
theorem dX11_earliest_8 : decode cX11_earliest 8 = .ok (.sipush 1439, 3) := by decide +kernel
theorem dX11_earliest_11 : decode cX11_earliest 11 = .ok (.invokevirtual 176, 3) := by decide +kernel
theorem dX11_earliest_14 : decode cX11_earliest 14 = .ok (.aload_n 0, 1) := by decide +kernel
theorem dX11_earliest_15 : decode cX11_earliest 15 = .ok (.getfield 61, 3) := by decide +kernel
theorem dX11_earliest_18 : decode cX11_earliest 18 = .ok (.invokevirtual 121, 3) := by decide +kernel
theorem dX11_earliest_21 : decode cX11_earliest 21 = .ok (.istore_n 3, 1) := by decide +kernel
theorem dX11_earliest_22 : decode cX11_earliest 22 = .ok (.iconst 0, 1) := by decide +kernel
theorem dX11_earliest_23 : decode cX11_earliest 23 = .ok (.istore 4, 2) := by decide +kernel
theorem dX11_earliest_25 : decode cX11_earliest 25 = .ok (.iload 4, 2) := by decide +kernel
theorem dX11_earliest_27 : decode cX11_earliest 27 = .ok (.iload_n 3, 1) := by decide +kernel
theorem dX11_earliest_28 : decode cX11_earliest 28 = .ok (.if_icmp .ge 39, 3) := by decide +kernel
theorem dX11_earliest_31 : decode cX11_earliest 31 = .ok (.aload_n 0, 1) := by decide +kernel
theorem dX11_earliest_32 : decode cX11_earliest 32 = .ok (.getfield 61, 3) := by decide +kernel
theorem dX11_earliest_35 : decode cX11_earliest 35 = .ok (.iload 4, 2) := by decide +kernel
theorem dX11_earliest_37 : decode cX11_earliest 37 = .ok (.invokevirtual 239, 3) := by decide +kernel
theorem dX11_earliest_40 : decode cX11_earliest 40 = .ok (.istore 5, 2) := by decide +kernel
theorem dX11_earliest_42 : decode cX11_earliest 42 = .ok (.iload 5, 2) := by decide +kernel
theorem dX11_earliest_44 : decode cX11_earliest 44 = .ok (.iload_n 2, 1) := by decide +kernel
theorem dX11_earliest_45 : decode cX11_earliest 45 = .ok (.if_icmp .lt 16, 3) := by decide +kernel
theorem dX11_earliest_48 : decode cX11_earliest 48 = .ok (.aload_n 0, 1) := by decide +kernel
theorem dX11_earliest_49 : decode cX11_earliest 49 = .ok (.iload_n 1, 1) := by decide +kernel
theorem dX11_earliest_50 : decode cX11_earliest 50 = .ok (.iload 5, 2) := by decide +kernel
theorem dX11_earliest_52 : decode cX11_earliest 52 = .ok (.invokevirtual 242, 3) := by decide +kernel
theorem dX11_earliest_55 : decode cX11_earliest 55 = .ok (.ifCond .eq 6, 3) := by decide +kernel
theorem dX11_earliest_58 : decode cX11_earliest 58 = .ok (.iload 5, 2) := by decide +kernel
theorem dX11_earliest_60 : decode cX11_earliest 60 = .ok (.ireturn, 1) := by decide +kernel
theorem dX11_earliest_61 : decode cX11_earliest 61 = .ok (.iinc 4 1, 3) := by decide +kernel
theorem dX11_earliest_64 : decode cX11_earliest 64 = .ok (.goto (-39), 3) := by decide +kernel
theorem dX11_earliest_67 : decode cX11_earliest 67 = .ok (.iconst (-1), 1) := by decide +kernel
theorem dX11_earliest_68 : decode cX11_earliest 68 = .ok (.ireturn, 1) := by decide +kernel
def f_X11_earliest_61 (N : Nat) (R : Nat → Nat → Nat) (k25 : SI → Nat → Int32 → Int32 → Int32 → Int32 → Option ((Int32 ⊕ Nat) × SI)) (σ : SI) (x0 : Nat) (x1 : Int32) (x2 : Int32) (x3 : Int32) (x4 : Int32) : Option ((Int32 ⊕ Nat) × SI) := k25 σ x0 x1 x2 x3 (x4 + 1)
def f_X11_earliest_25 (N : Nat) (R : Nat → Nat → Nat) : Nat → SI → Nat → Int32 → Int32 → Int32 → Int32 → Option ((Int32 ⊕ Nat) × SI)
  | 0, _, _, _, _, _, _ => none
  | n + 1, σ, x0, x1, x2, x3, x4 => if x3 ≤ x4 then (some (.inl (-1 : Int32), σ)) else (bd (f_X9_startAt N R σ (R x0 8) x4) (fun a9 σ9 => if a9 < x2 then (f_X11_earliest_61 N R (fun σ x0 x1 x2 x3 x4 => f_X11_earliest_25 N R n σ x0 x1 x2 x3 x4) σ9 x0 x1 x2 x3 x4) else (bd (f_X11_isAllowed N R σ9 x0 x1 a9) (fun a11 σ11 => if a11 = 0 then (f_X11_earliest_61 N R (fun σ x0 x1 x2 x3 x4 => f_X11_earliest_25 N R n σ x0 x1 x2 x3 x4) σ11 x0 x1 x2 x3 x4) else (some (.inl a9, σ11))))))
def f_X11_earliest (N : Nat) (R : Nat → Nat → Nat) (σ : SI) (x0 : Nat) (x1 : Int32) (x2 : Int32) : Option ((Int32 ⊕ Nat) × SI) := bdX (f_X11_needBlast N R σ x0 x1) (fun _ σ2 => bdX (f_X11_needRange N R σ2 x0 x2 (0 : Int32) (1439 : Int32)) (fun _ σ4 => bd (f_X9_startTotal N R σ4 (R x0 8)) (fun a6 σ6 => f_X11_earliest_25 N R N σ6 x0 x1 x2 a6 (0 : Int32))))
set_option maxHeartbeats 4000000 in
set_option maxRecDepth 100000 in
theorem w_X11_earliest_61 {l : Launch} {g : GL} {p : Program} {e : Jvm.Env} {s : State} {m : MethodId} {args : Array Value} {below : List Frame} {meth : Method} {c : Code} {R : Nat → Nat → Nat} {L : Nat → Nat → Int64} {r : ((Int32 ⊕ Nat) × SI)} {N : Nat} {k25 : SI → Nat → Int32 → Int32 → Int32 → Int32 → Option ((Int32 ⊕ Nat) × SI)} (C : Cx l g p s m meth c cX11_earliest 6 RX11) (hr : meth.sig.returnType = (some .int)) (hT : ∀ x ∈ c.exceptionTable.toList, False) (hSh : ShR R) (hk25 : ∀ (σ : SI) (x0 : Nat) (x1 : Int32) (x2 : Int32) (x3 : Int32) (x4 : Int32), k25 σ x0 x1 x2 x3 x4 = some r → Ok 194 x0 11 → ∀ (H : Heap) (locs : List Loc) (ls : Array Slot), S2 g s σ R L H locs → lv_has ls 6 [(0, .ref (gb g + x0)), (1, .int x1), (2, .int x2), (3, .int x3), (4, .int x4)] → W p l e (rmd 7 2 12) s m args below meth c H locs 2 (6 * 2) (vx_MQ below (Qg g 194 (PIX R L r)) (Xg g 194 (PX R L r)) args s 2 12 (gA g)) (F0 m 25 ls [])) : ∀ (σ : SI) (x0 : Nat) (x1 : Int32) (x2 : Int32) (x3 : Int32) (x4 : Int32), f_X11_earliest_61 N R k25 σ x0 x1 x2 x3 x4 = some r → Ok 194 x0 11 → ∀ (H : Heap) (locs : List Loc) (ls : Array Slot), S2 g s σ R L H locs → lv_has ls 6 [(0, .ref (gb g + x0)), (1, .int x1), (2, .int x2), (3, .int x3), (4, .int x4)] → W p l e (rmd 7 2 12) s m args below meth c H locs 2 (6 * 2) (vx_MQ below (Qg g 194 (PIX R L r)) (Xg g 194 (PX R L r)) args s 2 12 (gA g)) (F0 m 61 ls []) := by
  have hx := C.1
  have hb := C.2.1
  intro σ x0 x1 x2 x3 x4 h hx0 H locs ls S hl
  rw [f_X11_earliest_61] at h
  refine lv_iinc (v := x4 + 1) (lv' := [(4, .int (x4 + 1)), (0, .ref (gb g + x0)), (1, .int x1), (2, .int x2), (3, .int x3)]) hx hb dX11_earliest_61 hl (k := 4) rfl rfl (by decide) rfl (fun ls hl => ?_)
  refine lv_goto (tgt := 25) hx hb dX11_earliest_64 (by decide) ?_
  exact hk25 σ x0 x1 x2 x3 (x4 + 1) h hx0 H locs ls S (lv_sub hl [1, 2, 3, 4, 0] rfl)
set_option maxHeartbeats 4000000 in
set_option maxRecDepth 100000 in
theorem w_X11_earliest_25 {l : Launch} {g : GL} {p : Program} {e : Jvm.Env} {s : State} {m : MethodId} {args : Array Value} {below : List Frame} {meth : Method} {c : Code} {R : Nat → Nat → Nat} {L : Nat → Nat → Int64} {r : ((Int32 ⊕ Nat) × SI)} {N : Nat} (C : Cx l g p s m meth c cX11_earliest 6 RX11) (hr : meth.sig.returnType = (some .int)) (hT : ∀ x ∈ c.exceptionTable.toList, False) (hSh : ShR R) : ∀ (n : Nat) (σ : SI) (x0 : Nat) (x1 : Int32) (x2 : Int32) (x3 : Int32) (x4 : Int32), f_X11_earliest_25 N R n σ x0 x1 x2 x3 x4 = some r → Ok 194 x0 11 → ∀ (H : Heap) (locs : List Loc) (ls : Array Slot), S2 g s σ R L H locs → lv_has ls 6 [(0, .ref (gb g + x0)), (1, .int x1), (2, .int x2), (3, .int x3), (4, .int x4)] → W p l e (rmd 7 2 12) s m args below meth c H locs 2 (6 * 2) (vx_MQ below (Qg g 194 (PIX R L r)) (Xg g 194 (PX R L r)) args s 2 12 (gA g)) (F0 m 25 ls []) := by
  have hx := C.1
  have hb := C.2.1
  intro n
  induction n with
  | zero =>
    intro σ x0 x1 x2 x3 x4 h
    cases (show (none : Option ((Int32 ⊕ Nat) × SI)) = some r from h)
  | succ n ih =>
    intro σ x0 x1 x2 x3 x4 h hx0 H locs ls S hl
    rw [f_X11_earliest_25] at h
    refine lv_iload hx hb dX11_earliest_25 (lv_at hl 4 rfl) ?_
    refine lv_iload_n hx hb dX11_earliest_27 rfl (lv_at hl 3 rfl) ?_
    refine lv_icmp_ge (tgt := 67) hx hb dX11_earliest_28 (by decide) (fun c7 => ?_) (fun c7 => ?_)
    · have h := it_p c7 h
      refine lv_iconst (v := (-1 : Int32)) hx hb dX11_earliest_67 (by decide) ?_
      exact x_iretX C S hr (by decide) (by decide) h dX11_earliest_68
    · have h := it_n c7 h
      refine lv_aload_n hx hb dX11_earliest_31 rfl (lv_at hl 0 rfl) ?_
      have hR8 : Ok 194 (R x0 8) 9 := hSh x0 11 8 9 hx0.1 rfl
      refine x_getR C S KX11 hx0 8 (by decide) rfl rfl fl_RX11_61 hR8 dX11_earliest_32 ?_
      refine lv_iload hx hb dX11_earliest_35 (lv_at hl 4 rfl) ?_
      obtain ⟨a9, σ9, hc9, h⟩ := bd_el h
      refine x_callVI C S KX9 hR8 (ok_X9_startAt (L := L) hc9 hSh hR8) ⟨cd_X9_startAt, ni_RX9, ml_RX11_239, in_X9_startAt, sl_X9_startAt⟩ ⟨by decide, by decide⟩ rfl (rm_ok (by decide) (by decide)) hl.1 rfl (Nat.le_of_ble_eq_true rfl) ⟨by decide, by decide⟩ dX11_earliest_37 (fun H locs S => ?_)
      refine lv_istore (lv' := [(5, .int a9), (0, .ref (gb g + x0)), (1, .int x1), (2, .int x2), (3, .int x3), (4, .int x4)]) hx hb dX11_earliest_40 hl (by decide) rfl (fun ls hl => ?_)
      refine lv_iload hx hb dX11_earliest_42 (lv_at hl 0 rfl) ?_
      refine lv_iload_n hx hb dX11_earliest_44 rfl (lv_at hl 3 rfl) ?_
      refine lv_icmp_lt (tgt := 61) hx hb dX11_earliest_45 (by decide) (fun c10 => ?_) (fun c10 => ?_)
      · have h := it_p c10 h
        exact w_X11_earliest_61 C hr hT hSh ih σ9 x0 x1 x2 x3 x4 h hx0 H locs ls S (lv_sub hl [1, 2, 3, 4, 5] rfl)
      · have h := it_n c10 h
        refine lv_aload_n hx hb dX11_earliest_48 rfl (lv_at hl 1 rfl) ?_
        refine lv_iload_n hx hb dX11_earliest_49 rfl (lv_at hl 2 rfl) ?_
        refine lv_iload hx hb dX11_earliest_50 (lv_at hl 0 rfl) ?_
        obtain ⟨a11, σ11, hc11, h⟩ := bd_el h
        refine x_callVI C S KX11 hx0 (ok_X11_isAllowed (L := L) hc11 hSh hx0) ⟨cd_X11_isAllowed, ni_RX11, ml_RX11_242, in_X11_isAllowed, sl_X11_isAllowed⟩ ⟨by decide, by decide⟩ rfl (rm_ok (by decide) (by decide)) hl.1 rfl (Nat.le_of_ble_eq_true rfl) ⟨by decide, by decide⟩ dX11_earliest_52 (fun H locs S => ?_)
        refine lv_if_eq (tgt := 61) hx hb dX11_earliest_55 (by decide) (fun c12 => ?_) (fun c12 => ?_)
        · have h := it_p c12 h
          exact w_X11_earliest_61 C hr hT hSh ih σ11 x0 x1 x2 x3 x4 h hx0 H locs ls S (lv_sub hl [1, 2, 3, 4, 5] rfl)
        · have h := it_n c12 h
          refine lv_iload hx hb dX11_earliest_58 (lv_at hl 0 rfl) ?_
          exact x_iretX C S hr (by decide) (by decide) h dX11_earliest_60
set_option maxHeartbeats 4000000 in
set_option maxRecDepth 100000 in
theorem ok_X11_earliest {l : Launch} {g : GL} {R : Nat → Nat → Nat} {L : Nat → Nat → Int64} {N : Nat} {σ : SI} {x0 : Nat} {x1 : Int32} {x2 : Int32} {r : ((Int32 ⊕ Nat) × SI)} (h : f_X11_earliest N R σ x0 x1 x2 = some r) (hSh : ShR R) (hx0 : Ok 194 x0 11) : CtX l g 7 yX11_earliest cX11_earliest 6 (some .int) 194 194 2 12 [.ref (gb g + x0), .int x1, .int x2] (mkS σ R L) (PIX R L r) (PX R L r) := by
  refine vx_ofW (cc := cX11_earliest) (maxL := 6) (ret := (some .int)) (by decide) rfl ?_
  intro p e s m args below meth c s₁ B hml hT hv
  obtain ⟨rfl, hE, hLo, hWd⟩ := hv
  have hr : meth.sig.returnType = (some .int) := B.returns
  have C : Cx l g p s m meth c cX11_earliest 6 RX11 := ⟨B.exec, B.bytes, hml, findClass_of_methodNamed B.named, hE, hLo, B.notSynchronized⟩
  have S : S2 g s σ R L s.heap [] := ⟨hWd, va_S.rf⟩
  have hx := C.1
  have hb := C.2.1
  have hl := lv_entry ([.ref (gb g + x0), .int x1, .int x2]) (n := 6) (Nat.le_of_ble_eq_true rfl)
  rw [lg_entry_eq]
  generalize (lg_sl ([.ref (gb g + x0), .int x1, .int x2]) ++ List.replicate (6 - (lg_sl ([.ref (gb g + x0), .int x1, .int x2])).length) Slot.unset).toArray = ls at hl ⊢
  have hl : lv_has ls 6 [(0, .ref (gb g + x0)), (1, .int x1), (2, .int x2)] := hl
  generalize hH : s.heap = H at S ⊢
  generalize hlc : ([] : List Loc) = locs at S ⊢
  rw [f_X11_earliest] at h
  refine lv_aload_n hx hb dX11_earliest_0 rfl (lv_at hl 0 rfl) ?_
  refine lv_iload_n hx hb dX11_earliest_1 rfl (lv_at hl 1 rfl) ?_
  rcases bdX_el h with ⟨a2, σ2, hc2, h⟩ | ⟨q2, σ2, hc2, hr2⟩
  · refine x_callXV C S KX11 hx0 (ok_X11_needBlast (L := L) hc2 hSh hx0) ⟨cd_X11_needBlast, ni_RX11, ml_RX11_225, in_X11_needBlast, sl_X11_needBlast⟩ ⟨by decide, by decide⟩ rfl (rm_ok (by decide) (by decide)) hl.1 rfl (Nat.le_of_ble_eq_true rfl) ⟨by decide, by decide⟩ dX11_earliest_2 hT ⟨by decide, by decide⟩ (fun H locs S => ?_)
    refine lv_aload_n hx hb dX11_earliest_5 rfl (lv_at hl 0 rfl) ?_
    refine lv_iload_n hx hb dX11_earliest_6 rfl (lv_at hl 2 rfl) ?_
    refine lv_iconst (v := (0 : Int32)) hx hb dX11_earliest_7 (by decide) ?_
    refine lv_sipush (v := (1439 : Int32)) hx hb dX11_earliest_8 (by decide) ?_
    rcases bdX_el h with ⟨a4, σ4, hc4, h⟩ | ⟨q4, σ4, hc4, hr4⟩
    · refine x_callXV C S KX11 hx0 (ok_X11_needRange (L := L) hc4 hSh hx0) ⟨cd_X11_needRange, ni_RX11, ml_RX11_176, in_X11_needRange, sl_X11_needRange⟩ ⟨by decide, by decide⟩ rfl (rm_ok (by decide) (by decide)) hl.1 rfl (Nat.le_of_ble_eq_true rfl) ⟨by decide, by decide⟩ dX11_earliest_11 hT ⟨by decide, by decide⟩ (fun H locs S => ?_)
      refine lv_aload_n hx hb dX11_earliest_14 rfl (lv_at hl 0 rfl) ?_
      have hR5 : Ok 194 (R x0 8) 9 := hSh x0 11 8 9 hx0.1 rfl
      refine x_getR C S KX11 hx0 8 (by decide) rfl rfl fl_RX11_61 hR5 dX11_earliest_15 ?_
      obtain ⟨a6, σ6, hc6, h⟩ := bd_el h
      refine x_callVI C S KX9 hR5 (ok_X9_startTotal (L := L) hc6 hSh hR5) ⟨cd_X9_startTotal, ni_RX9, ml_RX11_121, in_X9_startTotal, sl_X9_startTotal⟩ ⟨by decide, by decide⟩ rfl (rm_ok (by decide) (by decide)) hl.1 rfl (Nat.le_of_ble_eq_true rfl) ⟨by decide, by decide⟩ dX11_earliest_18 (fun H locs S => ?_)
      refine lv_istore_n (lv' := [(3, .int a6), (0, .ref (gb g + x0)), (1, .int x1), (2, .int x2)]) hx hb dX11_earliest_21 rfl hl (by decide) rfl (fun ls hl => ?_)
      refine lv_iconst (v := (0 : Int32)) hx hb dX11_earliest_22 (by decide) ?_
      refine lv_istore (lv' := [(4, .int (0 : Int32)), (3, .int a6), (0, .ref (gb g + x0)), (1, .int x1), (2, .int x2)]) hx hb dX11_earliest_23 hl (by decide) rfl (fun ls hl => ?_)
      exact w_X11_earliest_25 C hr hT hSh N σ6 x0 x1 x2 a6 (0 : Int32) h hx0 H locs ls S (lv_sub hl [2, 3, 4, 1, 0] rfl)
    · exact x_callXX C S KX11 hx0 (ok_X11_needRange (L := L) hc4 hSh hx0) n_PVX ⟨cd_X11_needRange, ni_RX11, ml_RX11_176, in_X11_needRange, sl_X11_needRange⟩ ⟨by decide, by decide⟩ rfl (rm_ok (by decide) (by decide)) hl.1 rfl (Nat.le_of_ble_eq_true rfl) ⟨by decide, by decide⟩ dX11_earliest_11 hT ⟨by decide, by decide⟩ hr4
  · exact x_callXX C S KX11 hx0 (ok_X11_needBlast (L := L) hc2 hSh hx0) n_PVX ⟨cd_X11_needBlast, ni_RX11, ml_RX11_225, in_X11_needBlast, sl_X11_needBlast⟩ ⟨by decide, by decide⟩ rfl (rm_ok (by decide) (by decide)) hl.1 rfl (Nat.le_of_ble_eq_true rfl) ⟨by decide, by decide⟩ dX11_earliest_2 hT ⟨by decide, by decide⟩ hr2
theorem dX11_latest_0 : decode cX11_latest 0 = .ok (.aload_n 0, 1) := by decide +kernel
theorem dX11_latest_1 : decode cX11_latest 1 = .ok (.iload_n 1, 1) := by decide +kernel
theorem dX11_latest_2 : decode cX11_latest 2 = .ok (.invokevirtual 225, 3) := by decide +kernel
theorem dX11_latest_5 : decode cX11_latest 5 = .ok (.aload_n 0, 1) := by decide +kernel
theorem dX11_latest_6 : decode cX11_latest 6 = .ok (.iload_n 2, 1) := by decide +kernel
theorem dX11_latest_7 : decode cX11_latest 7 = .ok (.iconst 0, 1) := by decide +kernel
theorem dX11_latest_8 : decode cX11_latest 8 = .ok (.sipush 1439, 3) := by decide +kernel
theorem dX11_latest_11 : decode cX11_latest 11 = .ok (.invokevirtual 176, 3) := by decide +kernel
theorem dX11_latest_14 : decode cX11_latest 14 = .ok (.aload_n 0, 1) := by decide +kernel
theorem dX11_latest_15 : decode cX11_latest 15 = .ok (.getfield 61, 3) := by decide +kernel
theorem dX11_latest_18 : decode cX11_latest 18 = .ok (.invokevirtual 121, 3) := by decide +kernel
theorem dX11_latest_21 : decode cX11_latest 21 = .ok (.iconst 1, 1) := by decide +kernel
theorem dX11_latest_22 : decode cX11_latest 22 = .ok (.isub, 1) := by decide +kernel
theorem dX11_latest_23 : decode cX11_latest 23 = .ok (.istore_n 3, 1) := by decide +kernel
theorem dX11_latest_24 : decode cX11_latest 24 = .ok (.iload_n 3, 1) := by decide +kernel
theorem dX11_latest_25 : decode cX11_latest 25 = .ok (.ifCond .lt 38, 3) := by decide +kernel
theorem dX11_latest_28 : decode cX11_latest 28 = .ok (.aload_n 0, 1) := by decide +kernel
theorem dX11_latest_29 : decode cX11_latest 29 = .ok (.getfield 61, 3) := by decide +kernel
theorem dX11_latest_32 : decode cX11_latest 32 = .ok (.iload_n 3, 1) := by decide +kernel
theorem dX11_latest_33 : decode cX11_latest 33 = .ok (.invokevirtual 239, 3) := by decide +kernel
theorem dX11_latest_36 : decode cX11_latest 36 = .ok (.istore 4, 2) := by decide +kernel
theorem dX11_latest_38 : decode cX11_latest 38 = .ok (.iload 4, 2) := by decide +kernel
theorem dX11_latest_40 : decode cX11_latest 40 = .ok (.iload_n 2, 1) := by decide +kernel
theorem dX11_latest_41 : decode cX11_latest 41 = .ok (.if_icmp .gt 16, 3) := by decide +kernel
theorem dX11_latest_44 : decode cX11_latest 44 = .ok (.aload_n 0, 1) := by decide +kernel
theorem dX11_latest_45 : decode cX11_latest 45 = .ok (.iload_n 1, 1) := by decide +kernel
theorem dX11_latest_46 : decode cX11_latest 46 = .ok (.iload 4, 2) := by decide +kernel
theorem dX11_latest_48 : decode cX11_latest 48 = .ok (.invokevirtual 242, 3) := by decide +kernel
theorem dX11_latest_51 : decode cX11_latest 51 = .ok (.ifCond .eq 6, 3) := by decide +kernel
theorem dX11_latest_54 : decode cX11_latest 54 = .ok (.iload 4, 2) := by decide +kernel
theorem dX11_latest_56 : decode cX11_latest 56 = .ok (.ireturn, 1) := by decide +kernel
theorem dX11_latest_57 : decode cX11_latest 57 = .ok (.iinc 3 (-1), 3) := by decide +kernel
theorem dX11_latest_60 : decode cX11_latest 60 = .ok (.goto (-36), 3) := by decide +kernel
theorem dX11_latest_63 : decode cX11_latest 63 = .ok (.iconst (-1), 1) := by decide +kernel
theorem dX11_latest_64 : decode cX11_latest 64 = .ok (.ireturn, 1) := by decide +kernel
def f_X11_latest_57 (N : Nat) (R : Nat → Nat → Nat) (k24 : SI → Nat → Int32 → Int32 → Int32 → Option ((Int32 ⊕ Nat) × SI)) (σ : SI) (x0 : Nat) (x1 : Int32) (x2 : Int32) (x3 : Int32) : Option ((Int32 ⊕ Nat) × SI) := k24 σ x0 x1 x2 (x3 + (-1))
def f_X11_latest_24 (N : Nat) (R : Nat → Nat → Nat) : Nat → SI → Nat → Int32 → Int32 → Int32 → Option ((Int32 ⊕ Nat) × SI)
  | 0, _, _, _, _, _ => none
  | n + 1, σ, x0, x1, x2, x3 => if x3 < 0 then (some (.inl (-1 : Int32), σ)) else (bd (f_X9_startAt N R σ (R x0 8) x3) (fun a9 σ9 => if x2 < a9 then (f_X11_latest_57 N R (fun σ x0 x1 x2 x3 => f_X11_latest_24 N R n σ x0 x1 x2 x3) σ9 x0 x1 x2 x3) else (bd (f_X11_isAllowed N R σ9 x0 x1 a9) (fun a11 σ11 => if a11 = 0 then (f_X11_latest_57 N R (fun σ x0 x1 x2 x3 => f_X11_latest_24 N R n σ x0 x1 x2 x3) σ11 x0 x1 x2 x3) else (some (.inl a9, σ11))))))
def f_X11_latest (N : Nat) (R : Nat → Nat → Nat) (σ : SI) (x0 : Nat) (x1 : Int32) (x2 : Int32) : Option ((Int32 ⊕ Nat) × SI) := bdX (f_X11_needBlast N R σ x0 x1) (fun _ σ2 => bdX (f_X11_needRange N R σ2 x0 x2 (0 : Int32) (1439 : Int32)) (fun _ σ4 => bd (f_X9_startTotal N R σ4 (R x0 8)) (fun a6 σ6 => f_X11_latest_24 N R N σ6 x0 x1 x2 (a6 - (1 : Int32)))))
set_option maxHeartbeats 4000000 in
set_option maxRecDepth 100000 in
theorem w_X11_latest_57 {l : Launch} {g : GL} {p : Program} {e : Jvm.Env} {s : State} {m : MethodId} {args : Array Value} {below : List Frame} {meth : Method} {c : Code} {R : Nat → Nat → Nat} {L : Nat → Nat → Int64} {r : ((Int32 ⊕ Nat) × SI)} {N : Nat} {k24 : SI → Nat → Int32 → Int32 → Int32 → Option ((Int32 ⊕ Nat) × SI)} (C : Cx l g p s m meth c cX11_latest 5 RX11) (hr : meth.sig.returnType = (some .int)) (hT : ∀ x ∈ c.exceptionTable.toList, False) (hSh : ShR R) (hk24 : ∀ (σ : SI) (x0 : Nat) (x1 : Int32) (x2 : Int32) (x3 : Int32), k24 σ x0 x1 x2 x3 = some r → Ok 194 x0 11 → ∀ (H : Heap) (locs : List Loc) (ls : Array Slot), S2 g s σ R L H locs → lv_has ls 5 [(0, .ref (gb g + x0)), (1, .int x1), (2, .int x2), (3, .int x3)] → W p l e (rmd 7 2 12) s m args below meth c H locs 2 (6 * 2) (vx_MQ below (Qg g 194 (PIX R L r)) (Xg g 194 (PX R L r)) args s 2 12 (gA g)) (F0 m 24 ls [])) : ∀ (σ : SI) (x0 : Nat) (x1 : Int32) (x2 : Int32) (x3 : Int32), f_X11_latest_57 N R k24 σ x0 x1 x2 x3 = some r → Ok 194 x0 11 → ∀ (H : Heap) (locs : List Loc) (ls : Array Slot), S2 g s σ R L H locs → lv_has ls 5 [(0, .ref (gb g + x0)), (1, .int x1), (2, .int x2), (3, .int x3)] → W p l e (rmd 7 2 12) s m args below meth c H locs 2 (6 * 2) (vx_MQ below (Qg g 194 (PIX R L r)) (Xg g 194 (PX R L r)) args s 2 12 (gA g)) (F0 m 57 ls []) := by
  have hx := C.1
  have hb := C.2.1
  intro σ x0 x1 x2 x3 h hx0 H locs ls S hl
  rw [f_X11_latest_57] at h
  refine lv_iinc (v := x3 + (-1)) (lv' := [(3, .int (x3 + (-1))), (0, .ref (gb g + x0)), (1, .int x1), (2, .int x2)]) hx hb dX11_latest_57 hl (k := 3) rfl rfl (by decide) rfl (fun ls hl => ?_)
  refine lv_goto (tgt := 24) hx hb dX11_latest_60 (by decide) ?_
  exact hk24 σ x0 x1 x2 (x3 + (-1)) h hx0 H locs ls S (lv_sub hl [1, 2, 3, 0] rfl)
set_option maxHeartbeats 4000000 in
set_option maxRecDepth 100000 in
theorem w_X11_latest_24 {l : Launch} {g : GL} {p : Program} {e : Jvm.Env} {s : State} {m : MethodId} {args : Array Value} {below : List Frame} {meth : Method} {c : Code} {R : Nat → Nat → Nat} {L : Nat → Nat → Int64} {r : ((Int32 ⊕ Nat) × SI)} {N : Nat} (C : Cx l g p s m meth c cX11_latest 5 RX11) (hr : meth.sig.returnType = (some .int)) (hT : ∀ x ∈ c.exceptionTable.toList, False) (hSh : ShR R) : ∀ (n : Nat) (σ : SI) (x0 : Nat) (x1 : Int32) (x2 : Int32) (x3 : Int32), f_X11_latest_24 N R n σ x0 x1 x2 x3 = some r → Ok 194 x0 11 → ∀ (H : Heap) (locs : List Loc) (ls : Array Slot), S2 g s σ R L H locs → lv_has ls 5 [(0, .ref (gb g + x0)), (1, .int x1), (2, .int x2), (3, .int x3)] → W p l e (rmd 7 2 12) s m args below meth c H locs 2 (6 * 2) (vx_MQ below (Qg g 194 (PIX R L r)) (Xg g 194 (PX R L r)) args s 2 12 (gA g)) (F0 m 24 ls []) := by
  have hx := C.1
  have hb := C.2.1
  intro n
  induction n with
  | zero =>
    intro σ x0 x1 x2 x3 h
    cases (show (none : Option ((Int32 ⊕ Nat) × SI)) = some r from h)
  | succ n ih =>
    intro σ x0 x1 x2 x3 h hx0 H locs ls S hl
    rw [f_X11_latest_24] at h
    refine lv_iload_n hx hb dX11_latest_24 rfl (lv_at hl 3 rfl) ?_
    refine lv_if_lt (tgt := 63) hx hb dX11_latest_25 (by decide) (fun c7 => ?_) (fun c7 => ?_)
    · have h := it_p c7 h
      refine lv_iconst (v := (-1 : Int32)) hx hb dX11_latest_63 (by decide) ?_
      exact x_iretX C S hr (by decide) (by decide) h dX11_latest_64
    · have h := it_n c7 h
      refine lv_aload_n hx hb dX11_latest_28 rfl (lv_at hl 0 rfl) ?_
      have hR8 : Ok 194 (R x0 8) 9 := hSh x0 11 8 9 hx0.1 rfl
      refine x_getR C S KX11 hx0 8 (by decide) rfl rfl fl_RX11_61 hR8 dX11_latest_29 ?_
      refine lv_iload_n hx hb dX11_latest_32 rfl (lv_at hl 3 rfl) ?_
      obtain ⟨a9, σ9, hc9, h⟩ := bd_el h
      refine x_callVI C S KX9 hR8 (ok_X9_startAt (L := L) hc9 hSh hR8) ⟨cd_X9_startAt, ni_RX9, ml_RX11_239, in_X9_startAt, sl_X9_startAt⟩ ⟨by decide, by decide⟩ rfl (rm_ok (by decide) (by decide)) hl.1 rfl (Nat.le_of_ble_eq_true rfl) ⟨by decide, by decide⟩ dX11_latest_33 (fun H locs S => ?_)
      refine lv_istore (lv' := [(4, .int a9), (0, .ref (gb g + x0)), (1, .int x1), (2, .int x2), (3, .int x3)]) hx hb dX11_latest_36 hl (by decide) rfl (fun ls hl => ?_)
      refine lv_iload hx hb dX11_latest_38 (lv_at hl 0 rfl) ?_
      refine lv_iload_n hx hb dX11_latest_40 rfl (lv_at hl 3 rfl) ?_
      refine lv_icmp_gt (tgt := 57) hx hb dX11_latest_41 (by decide) (fun c10 => ?_) (fun c10 => ?_)
      · have h := it_p c10 h
        exact w_X11_latest_57 C hr hT hSh ih σ9 x0 x1 x2 x3 h hx0 H locs ls S (lv_sub hl [1, 2, 3, 4] rfl)
      · have h := it_n c10 h
        refine lv_aload_n hx hb dX11_latest_44 rfl (lv_at hl 1 rfl) ?_
        refine lv_iload_n hx hb dX11_latest_45 rfl (lv_at hl 2 rfl) ?_
        refine lv_iload hx hb dX11_latest_46 (lv_at hl 0 rfl) ?_
        obtain ⟨a11, σ11, hc11, h⟩ := bd_el h
        refine x_callVI C S KX11 hx0 (ok_X11_isAllowed (L := L) hc11 hSh hx0) ⟨cd_X11_isAllowed, ni_RX11, ml_RX11_242, in_X11_isAllowed, sl_X11_isAllowed⟩ ⟨by decide, by decide⟩ rfl (rm_ok (by decide) (by decide)) hl.1 rfl (Nat.le_of_ble_eq_true rfl) ⟨by decide, by decide⟩ dX11_latest_48 (fun H locs S => ?_)
        refine lv_if_eq (tgt := 57) hx hb dX11_latest_51 (by decide) (fun c12 => ?_) (fun c12 => ?_)
        · have h := it_p c12 h
          exact w_X11_latest_57 C hr hT hSh ih σ11 x0 x1 x2 x3 h hx0 H locs ls S (lv_sub hl [1, 2, 3, 4] rfl)
        · have h := it_n c12 h
          refine lv_iload hx hb dX11_latest_54 (lv_at hl 0 rfl) ?_
          exact x_iretX C S hr (by decide) (by decide) h dX11_latest_56
set_option maxHeartbeats 4000000 in
set_option maxRecDepth 100000 in
theorem ok_X11_latest {l : Launch} {g : GL} {R : Nat → Nat → Nat} {L : Nat → Nat → Int64} {N : Nat} {σ : SI} {x0 : Nat} {x1 : Int32} {x2 : Int32} {r : ((Int32 ⊕ Nat) × SI)} (h : f_X11_latest N R σ x0 x1 x2 = some r) (hSh : ShR R) (hx0 : Ok 194 x0 11) : CtX l g 7 yX11_latest cX11_latest 5 (some .int) 194 194 2 12 [.ref (gb g + x0), .int x1, .int x2] (mkS σ R L) (PIX R L r) (PX R L r) := by
  refine vx_ofW (cc := cX11_latest) (maxL := 5) (ret := (some .int)) (by decide) rfl ?_
  intro p e s m args below meth c s₁ B hml hT hv
  obtain ⟨rfl, hE, hLo, hWd⟩ := hv
  have hr : meth.sig.returnType = (some .int) := B.returns
  have C : Cx l g p s m meth c cX11_latest 5 RX11 := ⟨B.exec, B.bytes, hml, findClass_of_methodNamed B.named, hE, hLo, B.notSynchronized⟩
  have S : S2 g s σ R L s.heap [] := ⟨hWd, va_S.rf⟩
  have hx := C.1
  have hb := C.2.1
  have hl := lv_entry ([.ref (gb g + x0), .int x1, .int x2]) (n := 5) (Nat.le_of_ble_eq_true rfl)
  rw [lg_entry_eq]
  generalize (lg_sl ([.ref (gb g + x0), .int x1, .int x2]) ++ List.replicate (5 - (lg_sl ([.ref (gb g + x0), .int x1, .int x2])).length) Slot.unset).toArray = ls at hl ⊢
  have hl : lv_has ls 5 [(0, .ref (gb g + x0)), (1, .int x1), (2, .int x2)] := hl
  generalize hH : s.heap = H at S ⊢
  generalize hlc : ([] : List Loc) = locs at S ⊢
  rw [f_X11_latest] at h
  refine lv_aload_n hx hb dX11_latest_0 rfl (lv_at hl 0 rfl) ?_
  refine lv_iload_n hx hb dX11_latest_1 rfl (lv_at hl 1 rfl) ?_
  rcases bdX_el h with ⟨a2, σ2, hc2, h⟩ | ⟨q2, σ2, hc2, hr2⟩
  · refine x_callXV C S KX11 hx0 (ok_X11_needBlast (L := L) hc2 hSh hx0) ⟨cd_X11_needBlast, ni_RX11, ml_RX11_225, in_X11_needBlast, sl_X11_needBlast⟩ ⟨by decide, by decide⟩ rfl (rm_ok (by decide) (by decide)) hl.1 rfl (Nat.le_of_ble_eq_true rfl) ⟨by decide, by decide⟩ dX11_latest_2 hT ⟨by decide, by decide⟩ (fun H locs S => ?_)
    refine lv_aload_n hx hb dX11_latest_5 rfl (lv_at hl 0 rfl) ?_
    refine lv_iload_n hx hb dX11_latest_6 rfl (lv_at hl 2 rfl) ?_
    refine lv_iconst (v := (0 : Int32)) hx hb dX11_latest_7 (by decide) ?_
    refine lv_sipush (v := (1439 : Int32)) hx hb dX11_latest_8 (by decide) ?_
    rcases bdX_el h with ⟨a4, σ4, hc4, h⟩ | ⟨q4, σ4, hc4, hr4⟩
    · refine x_callXV C S KX11 hx0 (ok_X11_needRange (L := L) hc4 hSh hx0) ⟨cd_X11_needRange, ni_RX11, ml_RX11_176, in_X11_needRange, sl_X11_needRange⟩ ⟨by decide, by decide⟩ rfl (rm_ok (by decide) (by decide)) hl.1 rfl (Nat.le_of_ble_eq_true rfl) ⟨by decide, by decide⟩ dX11_latest_11 hT ⟨by decide, by decide⟩ (fun H locs S => ?_)
      refine lv_aload_n hx hb dX11_latest_14 rfl (lv_at hl 0 rfl) ?_
      have hR5 : Ok 194 (R x0 8) 9 := hSh x0 11 8 9 hx0.1 rfl
      refine x_getR C S KX11 hx0 8 (by decide) rfl rfl fl_RX11_61 hR5 dX11_latest_15 ?_
      obtain ⟨a6, σ6, hc6, h⟩ := bd_el h
      refine x_callVI C S KX9 hR5 (ok_X9_startTotal (L := L) hc6 hSh hR5) ⟨cd_X9_startTotal, ni_RX9, ml_RX11_121, in_X9_startTotal, sl_X9_startTotal⟩ ⟨by decide, by decide⟩ rfl (rm_ok (by decide) (by decide)) hl.1 rfl (Nat.le_of_ble_eq_true rfl) ⟨by decide, by decide⟩ dX11_latest_18 (fun H locs S => ?_)
      refine lv_iconst (v := (1 : Int32)) hx hb dX11_latest_21 (by decide) ?_
      refine lv_isub hx hb dX11_latest_22 ?_
      refine lv_istore_n (lv' := [(3, .int (a6 - (1 : Int32))), (0, .ref (gb g + x0)), (1, .int x1), (2, .int x2)]) hx hb dX11_latest_23 rfl hl (by decide) rfl (fun ls hl => ?_)
      exact w_X11_latest_24 C hr hT hSh N σ6 x0 x1 x2 (a6 - (1 : Int32)) h hx0 H locs ls S (lv_sub hl [1, 2, 3, 0] rfl)
    · exact x_callXX C S KX11 hx0 (ok_X11_needRange (L := L) hc4 hSh hx0) n_PVX ⟨cd_X11_needRange, ni_RX11, ml_RX11_176, in_X11_needRange, sl_X11_needRange⟩ ⟨by decide, by decide⟩ rfl (rm_ok (by decide) (by decide)) hl.1 rfl (Nat.le_of_ble_eq_true rfl) ⟨by decide, by decide⟩ dX11_latest_11 hT ⟨by decide, by decide⟩ hr4
  · exact x_callXX C S KX11 hx0 (ok_X11_needBlast (L := L) hc2 hSh hx0) n_PVX ⟨cd_X11_needBlast, ni_RX11, ml_RX11_225, in_X11_needBlast, sl_X11_needBlast⟩ ⟨by decide, by decide⟩ rfl (rm_ok (by decide) (by decide)) hl.1 rfl (Nat.le_of_ble_eq_true rfl) ⟨by decide, by decide⟩ dX11_latest_2 hT ⟨by decide, by decide⟩ hr2
theorem dX11_reasonCount_0 : decode cX11_reasonCount 0 = .ok (.aload_n 0, 1) := by decide +kernel
theorem dX11_reasonCount_1 : decode cX11_reasonCount 1 = .ok (.iload_n 1, 1) := by decide +kernel
theorem dX11_reasonCount_2 : decode cX11_reasonCount 2 = .ok (.invokevirtual 225, 3) := by decide +kernel
theorem dX11_reasonCount_5 : decode cX11_reasonCount 5 = .ok (.aload_n 0, 1) := by decide +kernel
theorem dX11_reasonCount_6 : decode cX11_reasonCount 6 = .ok (.iload_n 2, 1) := by decide +kernel
theorem dX11_reasonCount_7 : decode cX11_reasonCount 7 = .ok (.iconst 0, 1) := by decide +kernel
theorem dX11_reasonCount_8 : decode cX11_reasonCount 8 = .ok (.iconst 5, 1) := by decide +kernel
theorem dX11_reasonCount_9 : decode cX11_reasonCount 9 = .ok (.invokevirtual 176, 3) := by decide +kernel
theorem dX11_reasonCount_12 : decode cX11_reasonCount 12 = .ok (.aload_n 0, 1) := by decide +kernel
theorem dX11_reasonCount_13 : decode cX11_reasonCount 13 = .ok (.iload_n 1, 1) := by decide +kernel
theorem dX11_reasonCount_14 : decode cX11_reasonCount 14 = .ok (.iload_n 2, 1) := by decide +kernel
theorem dX11_reasonCount_15 : decode cX11_reasonCount 15 = .ok (.invokevirtual 246, 3) := by decide +kernel
theorem dX11_reasonCount_18 : decode cX11_reasonCount 18 = .ok (.ireturn, 1) := by decide +kernel
def f_X11_reasonCount (N : Nat) (R : Nat → Nat → Nat) (σ : SI) (x0 : Nat) (x1 : Int32) (x2 : Int32) : Option ((Int32 ⊕ Nat) × SI) := bdX (f_X11_needBlast N R σ x0 x1) (fun _ σ2 => bdX (f_X11_needRange N R σ2 x0 x2 (0 : Int32) (5 : Int32)) (fun _ σ4 => bd (f_X11_startsWithReason N R σ4 x0 x1 x2) (fun a5 σ5 => some (.inl a5, σ5))))
set_option maxHeartbeats 4000000 in
set_option maxRecDepth 100000 in
theorem ok_X11_reasonCount {l : Launch} {g : GL} {R : Nat → Nat → Nat} {L : Nat → Nat → Int64} {N : Nat} {σ : SI} {x0 : Nat} {x1 : Int32} {x2 : Int32} {r : ((Int32 ⊕ Nat) × SI)} (h : f_X11_reasonCount N R σ x0 x1 x2 = some r) (hSh : ShR R) (hx0 : Ok 194 x0 11) : CtX l g 7 yX11_reasonCount cX11_reasonCount 3 (some .int) 194 194 2 12 [.ref (gb g + x0), .int x1, .int x2] (mkS σ R L) (PIX R L r) (PX R L r) := by
  refine vx_ofW (cc := cX11_reasonCount) (maxL := 3) (ret := (some .int)) (by decide) rfl ?_
  intro p e s m args below meth c s₁ B hml hT hv
  obtain ⟨rfl, hE, hLo, hWd⟩ := hv
  have hr : meth.sig.returnType = (some .int) := B.returns
  have C : Cx l g p s m meth c cX11_reasonCount 3 RX11 := ⟨B.exec, B.bytes, hml, findClass_of_methodNamed B.named, hE, hLo, B.notSynchronized⟩
  have S : S2 g s σ R L s.heap [] := ⟨hWd, va_S.rf⟩
  have hx := C.1
  have hb := C.2.1
  have hl := lv_entry ([.ref (gb g + x0), .int x1, .int x2]) (n := 3) (Nat.le_of_ble_eq_true rfl)
  rw [lg_entry_eq]
  generalize (lg_sl ([.ref (gb g + x0), .int x1, .int x2]) ++ List.replicate (3 - (lg_sl ([.ref (gb g + x0), .int x1, .int x2])).length) Slot.unset).toArray = ls at hl ⊢
  have hl : lv_has ls 3 [(0, .ref (gb g + x0)), (1, .int x1), (2, .int x2)] := hl
  generalize hH : s.heap = H at S ⊢
  generalize hlc : ([] : List Loc) = locs at S ⊢
  rw [f_X11_reasonCount] at h
  refine lv_aload_n hx hb dX11_reasonCount_0 rfl (lv_at hl 0 rfl) ?_
  refine lv_iload_n hx hb dX11_reasonCount_1 rfl (lv_at hl 1 rfl) ?_
  rcases bdX_el h with ⟨a2, σ2, hc2, h⟩ | ⟨q2, σ2, hc2, hr2⟩
  · refine x_callXV C S KX11 hx0 (ok_X11_needBlast (L := L) hc2 hSh hx0) ⟨cd_X11_needBlast, ni_RX11, ml_RX11_225, in_X11_needBlast, sl_X11_needBlast⟩ ⟨by decide, by decide⟩ rfl (rm_ok (by decide) (by decide)) hl.1 rfl (Nat.le_of_ble_eq_true rfl) ⟨by decide, by decide⟩ dX11_reasonCount_2 hT ⟨by decide, by decide⟩ (fun H locs S => ?_)
    refine lv_aload_n hx hb dX11_reasonCount_5 rfl (lv_at hl 0 rfl) ?_
    refine lv_iload_n hx hb dX11_reasonCount_6 rfl (lv_at hl 2 rfl) ?_
    refine lv_iconst (v := (0 : Int32)) hx hb dX11_reasonCount_7 (by decide) ?_
    refine lv_iconst (v := (5 : Int32)) hx hb dX11_reasonCount_8 (by decide) ?_
    rcases bdX_el h with ⟨a4, σ4, hc4, h⟩ | ⟨q4, σ4, hc4, hr4⟩
    · refine x_callXV C S KX11 hx0 (ok_X11_needRange (L := L) hc4 hSh hx0) ⟨cd_X11_needRange, ni_RX11, ml_RX11_176, in_X11_needRange, sl_X11_needRange⟩ ⟨by decide, by decide⟩ rfl (rm_ok (by decide) (by decide)) hl.1 rfl (Nat.le_of_ble_eq_true rfl) ⟨by decide, by decide⟩ dX11_reasonCount_9 hT ⟨by decide, by decide⟩ (fun H locs S => ?_)
      refine lv_aload_n hx hb dX11_reasonCount_12 rfl (lv_at hl 0 rfl) ?_
      refine lv_iload_n hx hb dX11_reasonCount_13 rfl (lv_at hl 1 rfl) ?_
      refine lv_iload_n hx hb dX11_reasonCount_14 rfl (lv_at hl 2 rfl) ?_
      obtain ⟨a5, σ5, hc5, h⟩ := bd_el h
      refine x_callVI C S KX11 hx0 (ok_X11_startsWithReason (L := L) hc5 hSh hx0) ⟨cd_X11_startsWithReason, ni_RX11, ml_RX11_246, in_X11_startsWithReason, sl_X11_startsWithReason⟩ ⟨by decide, by decide⟩ rfl (rm_ok (by decide) (by decide)) hl.1 rfl (Nat.le_of_ble_eq_true rfl) ⟨by decide, by decide⟩ dX11_reasonCount_15 (fun H locs S => ?_)
      exact x_iretX C S hr (by decide) (by decide) h dX11_reasonCount_18
    · exact x_callXX C S KX11 hx0 (ok_X11_needRange (L := L) hc4 hSh hx0) n_PVX ⟨cd_X11_needRange, ni_RX11, ml_RX11_176, in_X11_needRange, sl_X11_needRange⟩ ⟨by decide, by decide⟩ rfl (rm_ok (by decide) (by decide)) hl.1 rfl (Nat.le_of_ble_eq_true rfl) ⟨by decide, by decide⟩ dX11_reasonCount_9 hT ⟨by decide, by decide⟩ hr4
  · exact x_callXX C S KX11 hx0 (ok_X11_needBlast (L := L) hc2 hSh hx0) n_PVX ⟨cd_X11_needBlast, ni_RX11, ml_RX11_225, in_X11_needBlast, sl_X11_needBlast⟩ ⟨by decide, by decide⟩ rfl (rm_ok (by decide) (by decide)) hl.1 rfl (Nat.le_of_ble_eq_true rfl) ⟨by decide, by decide⟩ dX11_reasonCount_2 hT ⟨by decide, by decide⟩ hr2
