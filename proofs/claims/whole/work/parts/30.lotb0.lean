theorem dX11_needBlast_0 : decode cX11_needBlast 0 = .ok (.iload_n 1, 1) := by decide +kernel
theorem dX11_needBlast_1 : decode cX11_needBlast 1 = .ok (.ifCond .lt 14, 3) := by decide +kernel
theorem dX11_needBlast_4 : decode cX11_needBlast 4 = .ok (.iload_n 1, 1) := by decide +kernel
theorem dX11_needBlast_5 : decode cX11_needBlast 5 = .ok (.aload_n 0, 1) := by decide +kernel
theorem dX11_needBlast_6 : decode cX11_needBlast 6 = .ok (.getfield 61, 3) := by decide +kernel
theorem dX11_needBlast_9 : decode cX11_needBlast 9 = .ok (.getfield 106, 3) := by decide +kernel
theorem dX11_needBlast_12 : decode cX11_needBlast 12 = .ok (.if_icmp .lt 14, 3) := by decide +kernel
theorem dX11_needBlast_15 : decode cX11_needBlast 15 = .ok (.new 356, 3) := by decide +kernel
theorem dX11_needBlast_18 : decode cX11_needBlast 18 = .ok (.dup, 1) := by decide +kernel
theorem dX11_needBlast_19 : decode cX11_needBlast 19 = .ok (.ldc_w 358, 3) := by decide +kernel
theorem dX11_needBlast_22 : decode cX11_needBlast 22 = .ok (.invokespecial 360, 3) := by decide +kernel
theorem dX11_needBlast_25 : decode cX11_needBlast 25 = .ok (.athrow, 1) := by decide +kernel
theorem dX11_needBlast_26 : decode cX11_needBlast 26 = .ok (.return_, 1) := by decide +kernel
def f_X11_needBlast_15 (N : Nat) (R : Nat → Nat → Nat) (σ : SI) : Option ((Unit ⊕ Nat) × SI) := some (.inr 0, σ)
def f_X11_needBlast (N : Nat) (R : Nat → Nat → Nat) (σ : SI) (x0 : Nat) (x1 : Int32) : Option ((Unit ⊕ Nat) × SI) := if x1 < 0 then (f_X11_needBlast_15 N R σ) else (if x1 < (σ (R x0 8) 11) then (some (.inl (), σ)) else (f_X11_needBlast_15 N R σ))
set_option maxHeartbeats 4000000 in
set_option maxRecDepth 100000 in
theorem w_X11_needBlast_15 {l : Launch} {g : GL} {p : Program} {e : Jvm.Env} {s : State} {m : MethodId} {args : Array Value} {below : List Frame} {meth : Method} {c : Code} {R : Nat → Nat → Nat} {L : Nat → Nat → Int64} {r : ((Unit ⊕ Nat) × SI)} {N : Nat} (C : Cx l g p s m meth c cX11_needBlast 2 RX11) (hr : meth.sig.returnType = none) (hT : ∀ x ∈ c.exceptionTable.toList, False) (hSh : ShR R) : ∀ (σ : SI), f_X11_needBlast_15 N R σ = some r → ∀ (H : Heap) (locs : List Loc) (ls : Array Slot), S2 g s σ R L H locs → lv_has ls 2 [] → W p l e (rmd 6 1 6) s m args below meth c H locs 0 0 (vx_MQ below (Qg g 194 (PVX R L r)) (Xg g 194 (PX R L r)) args s 1 6 (gA g)) (F0 m 15 ls []) := by
  have hx := C.1
  have hb := C.2.1
  intro σ h H locs ls S hl
  rw [f_X11_needBlast_15] at h
  exact x_throwW (q := 0) C S (by decide) cl_RX11_356 ni_ex0 (show (RX11, 358, "no such blast", 14) ∈ strTab by decide) at_RX11_360 hl.1 dX11_needBlast_15 dX11_needBlast_18 dX11_needBlast_19 dX11_needBlast_22 dX11_needBlast_25 hT (by decide) (Nat.le_of_ble_eq_true rfl) (by decide) (by decide) (by decide) (by decide) rfl h
set_option maxHeartbeats 4000000 in
set_option maxRecDepth 100000 in
theorem ok_X11_needBlast {l : Launch} {g : GL} {R : Nat → Nat → Nat} {L : Nat → Nat → Int64} {N : Nat} {σ : SI} {x0 : Nat} {x1 : Int32} {r : ((Unit ⊕ Nat) × SI)} (h : f_X11_needBlast N R σ x0 x1 = some r) (hSh : ShR R) (hx0 : Ok 194 x0 11) : CtX l g 6 yX11_needBlast cX11_needBlast 2 none 194 194 1 6 [.ref (gb g + x0), .int x1] (mkS σ R L) (PVX R L r) (PX R L r) := by
  refine vx_ofW (cc := cX11_needBlast) (maxL := 2) (ret := none) (by decide) rfl ?_
  intro p e s m args below meth c s₁ B hml hT hv
  obtain ⟨rfl, hE, hLo, hWd⟩ := hv
  have hr : meth.sig.returnType = none := B.returns
  have C : Cx l g p s m meth c cX11_needBlast 2 RX11 := ⟨B.exec, B.bytes, hml, findClass_of_methodNamed B.named, hE, hLo, B.notSynchronized⟩
  have S : S2 g s σ R L s.heap [] := ⟨hWd, va_S.rf⟩
  have hx := C.1
  have hb := C.2.1
  have hl := lv_entry ([.ref (gb g + x0), .int x1]) (n := 2) (Nat.le_of_ble_eq_true rfl)
  rw [lg_entry_eq]
  generalize (lg_sl ([.ref (gb g + x0), .int x1]) ++ List.replicate (2 - (lg_sl ([.ref (gb g + x0), .int x1])).length) Slot.unset).toArray = ls at hl ⊢
  have hl : lv_has ls 2 [(0, .ref (gb g + x0)), (1, .int x1)] := hl
  generalize hH : s.heap = H at S ⊢
  generalize hlc : ([] : List Loc) = locs at S ⊢
  rw [f_X11_needBlast] at h
  refine lv_iload_n hx hb dX11_needBlast_0 rfl (lv_at hl 1 rfl) ?_
  refine lv_if_lt (tgt := 15) hx hb dX11_needBlast_1 (by decide) (fun c1 => ?_) (fun c1 => ?_)
  · have h := it_p c1 h
    exact w_X11_needBlast_15 C hr hT hSh σ h H locs ls S (lv_sub hl [] rfl)
  · have h := it_n c1 h
    refine lv_iload_n hx hb dX11_needBlast_4 rfl (lv_at hl 1 rfl) ?_
    refine lv_aload_n hx hb dX11_needBlast_5 rfl (lv_at hl 0 rfl) ?_
    have hR2 : Ok 194 (R x0 8) 9 := hSh x0 11 8 9 hx0.1 rfl
    refine x_getR C S KX11 hx0 8 (by decide) rfl rfl fl_RX11_61 hR2 dX11_needBlast_6 ?_
    refine x_getI C S KX9 hR2 11 (by decide) rfl rfl fl_RX11_106 dX11_needBlast_9 ?_
    refine lv_icmp_lt (tgt := 26) hx hb dX11_needBlast_12 (by decide) (fun c3 => ?_) (fun c3 => ?_)
    · have h := it_p c3 h
      exact x_vretX C S hr (by decide) (by decide) h dX11_needBlast_26
    · have h := it_n c3 h
      exact w_X11_needBlast_15 C hr hT hSh σ h H locs ls S (lv_sub hl [] rfl)
theorem dX11_blastAt_0 : decode cX11_blastAt 0 = .ok (.aload_n 0, 1) := by decide +kernel
theorem dX11_blastAt_1 : decode cX11_blastAt 1 = .ok (.iload_n 1, 1) := by decide +kernel
theorem dX11_blastAt_2 : decode cX11_blastAt 2 = .ok (.invokevirtual 225, 3) := by decide +kernel
theorem dX11_blastAt_5 : decode cX11_blastAt 5 = .ok (.aload_n 0, 1) := by decide +kernel
theorem dX11_blastAt_6 : decode cX11_blastAt 6 = .ok (.getfield 61, 3) := by decide +kernel
theorem dX11_blastAt_9 : decode cX11_blastAt 9 = .ok (.getfield 361, 3) := by decide +kernel
theorem dX11_blastAt_12 : decode cX11_blastAt 12 = .ok (.iload_n 1, 1) := by decide +kernel
theorem dX11_blastAt_13 : decode cX11_blastAt 13 = .ok (.aaload, 1) := by decide +kernel
theorem dX11_blastAt_14 : decode cX11_blastAt 14 = .ok (.areturn, 1) := by decide +kernel
def f_X11_blastAt (N : Nat) (R : Nat → Nat → Nat) (σ : SI) (x0 : Nat) (x1 : Int32) : Option ((Nat ⊕ Nat) × SI) := bdX (f_X11_needBlast N R σ x0 x1) (fun _ σ2 => ck x1 6 (some (.inl (R (R (R x0 8) 2) x1.toNatClampNeg), σ2)))
set_option maxHeartbeats 4000000 in
set_option maxRecDepth 100000 in
theorem ok_X11_blastAt {l : Launch} {g : GL} {R : Nat → Nat → Nat} {L : Nat → Nat → Int64} {N : Nat} {σ : SI} {x0 : Nat} {x1 : Int32} {r : ((Nat ⊕ Nat) × SI)} (h : f_X11_blastAt N R σ x0 x1 = some r) (hSh : ShR R) (hx0 : Ok 194 x0 11) : CtX l g 7 yX11_blastAt cX11_blastAt 2 (some (.object "BlastPlanner$Blast")) 194 194 1 6 [.ref (gb g + x0), .int x1] (mkS σ R L) (PRX g 0 R L r) (PX R L r) := by
  refine vx_ofW (cc := cX11_blastAt) (maxL := 2) (ret := (some (.object "BlastPlanner$Blast"))) (by decide) rfl ?_
  intro p e s m args below meth c s₁ B hml hT hv
  obtain ⟨rfl, hE, hLo, hWd⟩ := hv
  have hr : meth.sig.returnType = (some (.object "BlastPlanner$Blast")) := B.returns
  have C : Cx l g p s m meth c cX11_blastAt 2 RX11 := ⟨B.exec, B.bytes, hml, findClass_of_methodNamed B.named, hE, hLo, B.notSynchronized⟩
  have S : S2 g s σ R L s.heap [] := ⟨hWd, va_S.rf⟩
  have hx := C.1
  have hb := C.2.1
  have hl := lv_entry ([.ref (gb g + x0), .int x1]) (n := 2) (Nat.le_of_ble_eq_true rfl)
  rw [lg_entry_eq]
  generalize (lg_sl ([.ref (gb g + x0), .int x1]) ++ List.replicate (2 - (lg_sl ([.ref (gb g + x0), .int x1])).length) Slot.unset).toArray = ls at hl ⊢
  have hl : lv_has ls 2 [(0, .ref (gb g + x0)), (1, .int x1)] := hl
  generalize hH : s.heap = H at S ⊢
  generalize hlc : ([] : List Loc) = locs at S ⊢
  rw [f_X11_blastAt] at h
  refine lv_aload_n hx hb dX11_blastAt_0 rfl (lv_at hl 0 rfl) ?_
  refine lv_iload_n hx hb dX11_blastAt_1 rfl (lv_at hl 1 rfl) ?_
  rcases bdX_el h with ⟨a2, σ2, hc2, h⟩ | ⟨q2, σ2, hc2, hr2⟩
  · refine x_callXV C S KX11 hx0 (ok_X11_needBlast (L := L) hc2 hSh hx0) ⟨cd_X11_needBlast, ni_RX11, ml_RX11_225, in_X11_needBlast, sl_X11_needBlast⟩ ⟨by decide, by decide⟩ rfl (rm_ok (by decide) (by decide)) hl.1 rfl (Nat.le_of_ble_eq_true rfl) ⟨by decide, by decide⟩ dX11_blastAt_2 hT ⟨by decide, by decide⟩ (fun H locs S => ?_)
    refine lv_aload_n hx hb dX11_blastAt_5 rfl (lv_at hl 0 rfl) ?_
    have hR3 : Ok 194 (R x0 8) 9 := hSh x0 11 8 9 hx0.1 rfl
    refine x_getR C S KX11 hx0 8 (by decide) rfl rfl fl_RX11_61 hR3 dX11_blastAt_6 ?_
    have hR4 : Ok 194 (R (R x0 8) 2) 50006 := hSh (R x0 8) 9 2 50006 hR3.1 rfl
    refine x_getR C S KX9 hR3 2 (by decide) rfl rfl fl_RX11_361 hR4 dX11_blastAt_9 ?_
    refine lv_iload_n hx hb dX11_blastAt_12 rfl (lv_at hl 1 rfl) ?_
    obtain ⟨hi5, h⟩ := ck_el h
    have hR6 : Ok 194 (R (R (R x0 8) 2) x1.toNatClampNeg) 0 := hSh (R (R x0 8) 2) 50006 x1.toNatClampNeg 0 hR4.1 (if_pos (vp_lt hi5))
    refine x_aald (len := 6) C S (by decide) 4 (by decide) rfl hR4 hi5 hR6 dX11_blastAt_13 ?_
    exact x_aretX C S hr (by decide) (by decide) hR6 h dX11_blastAt_14
  · exact x_callXX C S KX11 hx0 (ok_X11_needBlast (L := L) hc2 hSh hx0) n_PVX ⟨cd_X11_needBlast, ni_RX11, ml_RX11_225, in_X11_needBlast, sl_X11_needBlast⟩ ⟨by decide, by decide⟩ rfl (rm_ok (by decide) (by decide)) hl.1 rfl (Nat.le_of_ble_eq_true rfl) ⟨by decide, by decide⟩ dX11_blastAt_2 hT ⟨by decide, by decide⟩ hr2
theorem dX11_neighbourAt_0 : decode cX11_neighbourAt 0 = .ok (.iload_n 1, 1) := by decide +kernel
theorem dX11_neighbourAt_1 : decode cX11_neighbourAt 1 = .ok (.ifCond .lt 14, 3) := by decide +kernel
theorem dX11_neighbourAt_4 : decode cX11_neighbourAt 4 = .ok (.iload_n 1, 1) := by decide +kernel
theorem dX11_neighbourAt_5 : decode cX11_neighbourAt 5 = .ok (.aload_n 0, 1) := by decide +kernel
theorem dX11_neighbourAt_6 : decode cX11_neighbourAt 6 = .ok (.getfield 61, 3) := by decide +kernel
theorem dX11_neighbourAt_9 : decode cX11_neighbourAt 9 = .ok (.getfield 115, 3) := by decide +kernel
theorem dX11_neighbourAt_12 : decode cX11_neighbourAt 12 = .ok (.if_icmp .lt 14, 3) := by decide +kernel
theorem dX11_neighbourAt_15 : decode cX11_neighbourAt 15 = .ok (.new 356, 3) := by decide +kernel
theorem dX11_neighbourAt_18 : decode cX11_neighbourAt 18 = .ok (.dup, 1) := by decide +kernel
theorem dX11_neighbourAt_19 : decode cX11_neighbourAt 19 = .ok (.ldc_w 365, 3) := by decide +kernel
theorem dX11_neighbourAt_22 : decode cX11_neighbourAt 22 = .ok (.invokespecial 360, 3) := by decide +kernel
theorem dX11_neighbourAt_25 : decode cX11_neighbourAt 25 = .ok (.athrow, 1) := by decide +kernel
theorem dX11_neighbourAt_26 : decode cX11_neighbourAt 26 = .ok (.aload_n 0, 1) := by decide +kernel
theorem dX11_neighbourAt_27 : decode cX11_neighbourAt 27 = .ok (.getfield 61, 3) := by decide +kernel
theorem dX11_neighbourAt_30 : decode cX11_neighbourAt 30 = .ok (.getfield 367, 3) := by decide +kernel
theorem dX11_neighbourAt_33 : decode cX11_neighbourAt 33 = .ok (.iload_n 1, 1) := by decide +kernel
theorem dX11_neighbourAt_34 : decode cX11_neighbourAt 34 = .ok (.aaload, 1) := by decide +kernel
theorem dX11_neighbourAt_35 : decode cX11_neighbourAt 35 = .ok (.areturn, 1) := by decide +kernel
def f_X11_neighbourAt_15 (N : Nat) (R : Nat → Nat → Nat) (σ : SI) : Option ((Nat ⊕ Nat) × SI) := some (.inr 0, σ)
def f_X11_neighbourAt (N : Nat) (R : Nat → Nat → Nat) (σ : SI) (x0 : Nat) (x1 : Int32) : Option ((Nat ⊕ Nat) × SI) := if x1 < 0 then (f_X11_neighbourAt_15 N R σ) else (if x1 < (σ (R x0 8) 9) then (ck x1 8 (some (.inl (R (R (R x0 8) 0) x1.toNatClampNeg), σ))) else (f_X11_neighbourAt_15 N R σ))
set_option maxHeartbeats 4000000 in
set_option maxRecDepth 100000 in
theorem w_X11_neighbourAt_15 {l : Launch} {g : GL} {p : Program} {e : Jvm.Env} {s : State} {m : MethodId} {args : Array Value} {below : List Frame} {meth : Method} {c : Code} {R : Nat → Nat → Nat} {L : Nat → Nat → Int64} {r : ((Nat ⊕ Nat) × SI)} {N : Nat} (C : Cx l g p s m meth c cX11_neighbourAt 2 RX11) (hr : meth.sig.returnType = (some (.object "BlastPlanner$Neighbour"))) (hT : ∀ x ∈ c.exceptionTable.toList, False) (hSh : ShR R) : ∀ (σ : SI), f_X11_neighbourAt_15 N R σ = some r → ∀ (H : Heap) (locs : List Loc) (ls : Array Slot), S2 g s σ R L H locs → lv_has ls 2 [] → W p l e (rmd 6 1 6) s m args below meth c H locs 0 0 (vx_MQ below (Qg g 194 (PRX g 4 R L r)) (Xg g 194 (PX R L r)) args s 1 6 (gA g)) (F0 m 15 ls []) := by
  have hx := C.1
  have hb := C.2.1
  intro σ h H locs ls S hl
  rw [f_X11_neighbourAt_15] at h
  exact x_throwW (q := 0) C S (by decide) cl_RX11_356 ni_ex0 (show (RX11, 365, "no such neighbour", 16) ∈ strTab by decide) at_RX11_360 hl.1 dX11_neighbourAt_15 dX11_neighbourAt_18 dX11_neighbourAt_19 dX11_neighbourAt_22 dX11_neighbourAt_25 hT (by decide) (Nat.le_of_ble_eq_true rfl) (by decide) (by decide) (by decide) (by decide) rfl h
set_option maxHeartbeats 4000000 in
set_option maxRecDepth 100000 in
theorem ok_X11_neighbourAt {l : Launch} {g : GL} {R : Nat → Nat → Nat} {L : Nat → Nat → Int64} {N : Nat} {σ : SI} {x0 : Nat} {x1 : Int32} {r : ((Nat ⊕ Nat) × SI)} (h : f_X11_neighbourAt N R σ x0 x1 = some r) (hSh : ShR R) (hx0 : Ok 194 x0 11) : CtX l g 6 yX11_neighbourAt cX11_neighbourAt 2 (some (.object "BlastPlanner$Neighbour")) 194 194 1 6 [.ref (gb g + x0), .int x1] (mkS σ R L) (PRX g 4 R L r) (PX R L r) := by
  refine vx_ofW (cc := cX11_neighbourAt) (maxL := 2) (ret := (some (.object "BlastPlanner$Neighbour"))) (by decide) rfl ?_
  intro p e s m args below meth c s₁ B hml hT hv
  obtain ⟨rfl, hE, hLo, hWd⟩ := hv
  have hr : meth.sig.returnType = (some (.object "BlastPlanner$Neighbour")) := B.returns
  have C : Cx l g p s m meth c cX11_neighbourAt 2 RX11 := ⟨B.exec, B.bytes, hml, findClass_of_methodNamed B.named, hE, hLo, B.notSynchronized⟩
  have S : S2 g s σ R L s.heap [] := ⟨hWd, va_S.rf⟩
  have hx := C.1
  have hb := C.2.1
  have hl := lv_entry ([.ref (gb g + x0), .int x1]) (n := 2) (Nat.le_of_ble_eq_true rfl)
  rw [lg_entry_eq]
  generalize (lg_sl ([.ref (gb g + x0), .int x1]) ++ List.replicate (2 - (lg_sl ([.ref (gb g + x0), .int x1])).length) Slot.unset).toArray = ls at hl ⊢
  have hl : lv_has ls 2 [(0, .ref (gb g + x0)), (1, .int x1)] := hl
  generalize hH : s.heap = H at S ⊢
  generalize hlc : ([] : List Loc) = locs at S ⊢
  rw [f_X11_neighbourAt] at h
  refine lv_iload_n hx hb dX11_neighbourAt_0 rfl (lv_at hl 1 rfl) ?_
  refine lv_if_lt (tgt := 15) hx hb dX11_neighbourAt_1 (by decide) (fun c1 => ?_) (fun c1 => ?_)
  · have h := it_p c1 h
    exact w_X11_neighbourAt_15 C hr hT hSh σ h H locs ls S (lv_sub hl [] rfl)
  · have h := it_n c1 h
    refine lv_iload_n hx hb dX11_neighbourAt_4 rfl (lv_at hl 1 rfl) ?_
    refine lv_aload_n hx hb dX11_neighbourAt_5 rfl (lv_at hl 0 rfl) ?_
    have hR2 : Ok 194 (R x0 8) 9 := hSh x0 11 8 9 hx0.1 rfl
    refine x_getR C S KX11 hx0 8 (by decide) rfl rfl fl_RX11_61 hR2 dX11_neighbourAt_6 ?_
    refine x_getI C S KX9 hR2 9 (by decide) rfl rfl fl_RX11_115 dX11_neighbourAt_9 ?_
    refine lv_icmp_lt (tgt := 26) hx hb dX11_neighbourAt_12 (by decide) (fun c3 => ?_) (fun c3 => ?_)
    · have h := it_p c3 h
      refine lv_aload_n hx hb dX11_neighbourAt_26 rfl (lv_at hl 0 rfl) ?_
      have hR4 : Ok 194 (R x0 8) 9 := hSh x0 11 8 9 hx0.1 rfl
      refine x_getR C S KX11 hx0 8 (by decide) rfl rfl fl_RX11_61 hR4 dX11_neighbourAt_27 ?_
      have hR5 : Ok 194 (R (R x0 8) 0) 60008 := hSh (R x0 8) 9 0 60008 hR4.1 rfl
      refine x_getR C S KX9 hR4 0 (by decide) rfl rfl fl_RX11_367 hR5 dX11_neighbourAt_30 ?_
      refine lv_iload_n hx hb dX11_neighbourAt_33 rfl (lv_at hl 1 rfl) ?_
      obtain ⟨hi6, h⟩ := ck_el h
      have hR7 : Ok 194 (R (R (R x0 8) 0) x1.toNatClampNeg) 4 := hSh (R (R x0 8) 0) 60008 x1.toNatClampNeg 4 hR5.1 (if_pos (vp_lt hi6))
      refine x_aald (len := 8) C S (by decide) 5 (by decide) rfl hR5 hi6 hR7 dX11_neighbourAt_34 ?_
      exact x_aretX C S hr (by decide) (by decide) hR7 h dX11_neighbourAt_35
    · have h := it_n c3 h
      exact w_X11_neighbourAt_15 C hr hT hSh σ h H locs ls S (lv_sub hl [] rfl)
theorem dX11_roadAt_0 : decode cX11_roadAt 0 = .ok (.iload_n 1, 1) := by decide +kernel
theorem dX11_roadAt_1 : decode cX11_roadAt 1 = .ok (.ifCond .lt 14, 3) := by decide +kernel
theorem dX11_roadAt_4 : decode cX11_roadAt 4 = .ok (.iload_n 1, 1) := by decide +kernel
theorem dX11_roadAt_5 : decode cX11_roadAt 5 = .ok (.aload_n 0, 1) := by decide +kernel
theorem dX11_roadAt_6 : decode cX11_roadAt 6 = .ok (.getfield 61, 3) := by decide +kernel
theorem dX11_roadAt_9 : decode cX11_roadAt 9 = .ok (.getfield 118, 3) := by decide +kernel
theorem dX11_roadAt_12 : decode cX11_roadAt 12 = .ok (.if_icmp .lt 14, 3) := by decide +kernel
theorem dX11_roadAt_15 : decode cX11_roadAt 15 = .ok (.new 356, 3) := by decide +kernel
theorem dX11_roadAt_18 : decode cX11_roadAt 18 = .ok (.dup, 1) := by decide +kernel
theorem dX11_roadAt_19 : decode cX11_roadAt 19 = .ok (.ldc_w 371, 3) := by decide +kernel
theorem dX11_roadAt_22 : decode cX11_roadAt 22 = .ok (.invokespecial 360, 3) := by decide +kernel
theorem dX11_roadAt_25 : decode cX11_roadAt 25 = .ok (.athrow, 1) := by decide +kernel
theorem dX11_roadAt_26 : decode cX11_roadAt 26 = .ok (.aload_n 0, 1) := by decide +kernel
theorem dX11_roadAt_27 : decode cX11_roadAt 27 = .ok (.getfield 61, 3) := by decide +kernel
theorem dX11_roadAt_30 : decode cX11_roadAt 30 = .ok (.getfield 373, 3) := by decide +kernel
theorem dX11_roadAt_33 : decode cX11_roadAt 33 = .ok (.iload_n 1, 1) := by decide +kernel
theorem dX11_roadAt_34 : decode cX11_roadAt 34 = .ok (.aaload, 1) := by decide +kernel
theorem dX11_roadAt_35 : decode cX11_roadAt 35 = .ok (.areturn, 1) := by decide +kernel
def f_X11_roadAt_15 (N : Nat) (R : Nat → Nat → Nat) (σ : SI) : Option ((Nat ⊕ Nat) × SI) := some (.inr 0, σ)
def f_X11_roadAt (N : Nat) (R : Nat → Nat → Nat) (σ : SI) (x0 : Nat) (x1 : Int32) : Option ((Nat ⊕ Nat) × SI) := if x1 < 0 then (f_X11_roadAt_15 N R σ) else (if x1 < (σ (R x0 8) 10) then (ck x1 6 (some (.inl (R (R (R x0 8) 1) x1.toNatClampNeg), σ))) else (f_X11_roadAt_15 N R σ))
set_option maxHeartbeats 4000000 in
set_option maxRecDepth 100000 in
theorem w_X11_roadAt_15 {l : Launch} {g : GL} {p : Program} {e : Jvm.Env} {s : State} {m : MethodId} {args : Array Value} {below : List Frame} {meth : Method} {c : Code} {R : Nat → Nat → Nat} {L : Nat → Nat → Int64} {r : ((Nat ⊕ Nat) × SI)} {N : Nat} (C : Cx l g p s m meth c cX11_roadAt 2 RX11) (hr : meth.sig.returnType = (some (.object "BlastPlanner$Road"))) (hT : ∀ x ∈ c.exceptionTable.toList, False) (hSh : ShR R) : ∀ (σ : SI), f_X11_roadAt_15 N R σ = some r → ∀ (H : Heap) (locs : List Loc) (ls : Array Slot), S2 g s σ R L H locs → lv_has ls 2 [] → W p l e (rmd 6 1 6) s m args below meth c H locs 0 0 (vx_MQ below (Qg g 194 (PRX g 7 R L r)) (Xg g 194 (PX R L r)) args s 1 6 (gA g)) (F0 m 15 ls []) := by
  have hx := C.1
  have hb := C.2.1
  intro σ h H locs ls S hl
  rw [f_X11_roadAt_15] at h
  exact x_throwW (q := 0) C S (by decide) cl_RX11_356 ni_ex0 (show (RX11, 371, "no such road", 18) ∈ strTab by decide) at_RX11_360 hl.1 dX11_roadAt_15 dX11_roadAt_18 dX11_roadAt_19 dX11_roadAt_22 dX11_roadAt_25 hT (by decide) (Nat.le_of_ble_eq_true rfl) (by decide) (by decide) (by decide) (by decide) rfl h
set_option maxHeartbeats 4000000 in
set_option maxRecDepth 100000 in
theorem ok_X11_roadAt {l : Launch} {g : GL} {R : Nat → Nat → Nat} {L : Nat → Nat → Int64} {N : Nat} {σ : SI} {x0 : Nat} {x1 : Int32} {r : ((Nat ⊕ Nat) × SI)} (h : f_X11_roadAt N R σ x0 x1 = some r) (hSh : ShR R) (hx0 : Ok 194 x0 11) : CtX l g 6 yX11_roadAt cX11_roadAt 2 (some (.object "BlastPlanner$Road")) 194 194 1 6 [.ref (gb g + x0), .int x1] (mkS σ R L) (PRX g 7 R L r) (PX R L r) := by
  refine vx_ofW (cc := cX11_roadAt) (maxL := 2) (ret := (some (.object "BlastPlanner$Road"))) (by decide) rfl ?_
  intro p e s m args below meth c s₁ B hml hT hv
  obtain ⟨rfl, hE, hLo, hWd⟩ := hv
  have hr : meth.sig.returnType = (some (.object "BlastPlanner$Road")) := B.returns
  have C : Cx l g p s m meth c cX11_roadAt 2 RX11 := ⟨B.exec, B.bytes, hml, findClass_of_methodNamed B.named, hE, hLo, B.notSynchronized⟩
  have S : S2 g s σ R L s.heap [] := ⟨hWd, va_S.rf⟩
  have hx := C.1
  have hb := C.2.1
  have hl := lv_entry ([.ref (gb g + x0), .int x1]) (n := 2) (Nat.le_of_ble_eq_true rfl)
  rw [lg_entry_eq]
  generalize (lg_sl ([.ref (gb g + x0), .int x1]) ++ List.replicate (2 - (lg_sl ([.ref (gb g + x0), .int x1])).length) Slot.unset).toArray = ls at hl ⊢
  have hl : lv_has ls 2 [(0, .ref (gb g + x0)), (1, .int x1)] := hl
  generalize hH : s.heap = H at S ⊢
  generalize hlc : ([] : List Loc) = locs at S ⊢
  rw [f_X11_roadAt] at h
  refine lv_iload_n hx hb dX11_roadAt_0 rfl (lv_at hl 1 rfl) ?_
  refine lv_if_lt (tgt := 15) hx hb dX11_roadAt_1 (by decide) (fun c1 => ?_) (fun c1 => ?_)
  · have h := it_p c1 h
    exact w_X11_roadAt_15 C hr hT hSh σ h H locs ls S (lv_sub hl [] rfl)
  · have h := it_n c1 h
    refine lv_iload_n hx hb dX11_roadAt_4 rfl (lv_at hl 1 rfl) ?_
    refine lv_aload_n hx hb dX11_roadAt_5 rfl (lv_at hl 0 rfl) ?_
    have hR2 : Ok 194 (R x0 8) 9 := hSh x0 11 8 9 hx0.1 rfl
    refine x_getR C S KX11 hx0 8 (by decide) rfl rfl fl_RX11_61 hR2 dX11_roadAt_6 ?_
    refine x_getI C S KX9 hR2 10 (by decide) rfl rfl fl_RX11_118 dX11_roadAt_9 ?_
    refine lv_icmp_lt (tgt := 26) hx hb dX11_roadAt_12 (by decide) (fun c3 => ?_) (fun c3 => ?_)
    · have h := it_p c3 h
      refine lv_aload_n hx hb dX11_roadAt_26 rfl (lv_at hl 0 rfl) ?_
      have hR4 : Ok 194 (R x0 8) 9 := hSh x0 11 8 9 hx0.1 rfl
      refine x_getR C S KX11 hx0 8 (by decide) rfl rfl fl_RX11_61 hR4 dX11_roadAt_27 ?_
      have hR5 : Ok 194 (R (R x0 8) 1) 70006 := hSh (R x0 8) 9 1 70006 hR4.1 rfl
      refine x_getR C S KX9 hR4 1 (by decide) rfl rfl fl_RX11_373 hR5 dX11_roadAt_30 ?_
      refine lv_iload_n hx hb dX11_roadAt_33 rfl (lv_at hl 1 rfl) ?_
      obtain ⟨hi6, h⟩ := ck_el h
      have hR7 : Ok 194 (R (R (R x0 8) 1) x1.toNatClampNeg) 7 := hSh (R (R x0 8) 1) 70006 x1.toNatClampNeg 7 hR5.1 (if_pos (vp_lt hi6))
      refine x_aald (len := 6) C S (by decide) 6 (by decide) rfl hR5 hi6 hR7 dX11_roadAt_34 ?_
      exact x_aretX C S hr (by decide) (by decide) hR7 h dX11_roadAt_35
    · have h := it_n c3 h
      exact w_X11_roadAt_15 C hr hT hSh σ h H locs ls S (lv_sub hl [] rfl)
theorem dX11_needCharge_0 : decode cX11_needCharge 0 = .ok (.iload_n 2, 1) := by decide +kernel
theorem dX11_needCharge_1 : decode cX11_needCharge 1 = .ok (.ifCond .lt 11, 3) := by decide +kernel
theorem dX11_needCharge_4 : decode cX11_needCharge 4 = .ok (.iload_n 2, 1) := by decide +kernel
theorem dX11_needCharge_5 : decode cX11_needCharge 5 = .ok (.aload_n 1, 1) := by decide +kernel
theorem dX11_needCharge_6 : decode cX11_needCharge 6 = .ok (.getfield 129, 3) := by decide +kernel
theorem dX11_needCharge_9 : decode cX11_needCharge 9 = .ok (.if_icmp .lt 14, 3) := by decide +kernel
theorem dX11_needCharge_12 : decode cX11_needCharge 12 = .ok (.new 356, 3) := by decide +kernel
theorem dX11_needCharge_15 : decode cX11_needCharge 15 = .ok (.dup, 1) := by decide +kernel
theorem dX11_needCharge_16 : decode cX11_needCharge 16 = .ok (.ldc_w 377, 3) := by decide +kernel
theorem dX11_needCharge_19 : decode cX11_needCharge 19 = .ok (.invokespecial 360, 3) := by decide +kernel
theorem dX11_needCharge_22 : decode cX11_needCharge 22 = .ok (.athrow, 1) := by decide +kernel
theorem dX11_needCharge_23 : decode cX11_needCharge 23 = .ok (.return_, 1) := by decide +kernel
def f_X11_needCharge_12 (N : Nat) (R : Nat → Nat → Nat) (σ : SI) : Option ((Unit ⊕ Nat) × SI) := some (.inr 0, σ)
def f_X11_needCharge (N : Nat) (R : Nat → Nat → Nat) (σ : SI) (x0 : Nat) (x1 : Nat) (x2 : Int32) : Option ((Unit ⊕ Nat) × SI) := if x2 < 0 then (f_X11_needCharge_12 N R σ) else (if x2 < (σ x1 7) then (some (.inl (), σ)) else (f_X11_needCharge_12 N R σ))
set_option maxHeartbeats 4000000 in
set_option maxRecDepth 100000 in
theorem w_X11_needCharge_12 {l : Launch} {g : GL} {p : Program} {e : Jvm.Env} {s : State} {m : MethodId} {args : Array Value} {below : List Frame} {meth : Method} {c : Code} {R : Nat → Nat → Nat} {L : Nat → Nat → Int64} {r : ((Unit ⊕ Nat) × SI)} {N : Nat} (C : Cx l g p s m meth c cX11_needCharge 3 RX11) (hr : meth.sig.returnType = none) (hT : ∀ x ∈ c.exceptionTable.toList, False) (hSh : ShR R) : ∀ (σ : SI), f_X11_needCharge_12 N R σ = some r → ∀ (H : Heap) (locs : List Loc) (ls : Array Slot), S2 g s σ R L H locs → lv_has ls 3 [] → W p l e (rmd 6 1 6) s m args below meth c H locs 0 0 (vx_MQ below (Qg g 194 (PVX R L r)) (Xg g 194 (PX R L r)) args s 1 6 (gA g)) (F0 m 12 ls []) := by
  have hx := C.1
  have hb := C.2.1
  intro σ h H locs ls S hl
  rw [f_X11_needCharge_12] at h
  exact x_throwW (q := 0) C S (by decide) cl_RX11_356 ni_ex0 (show (RX11, 377, "no such charge", 15) ∈ strTab by decide) at_RX11_360 hl.1 dX11_needCharge_12 dX11_needCharge_15 dX11_needCharge_16 dX11_needCharge_19 dX11_needCharge_22 hT (by decide) (Nat.le_of_ble_eq_true rfl) (by decide) (by decide) (by decide) (by decide) rfl h
set_option maxHeartbeats 4000000 in
set_option maxRecDepth 100000 in
theorem ok_X11_needCharge {l : Launch} {g : GL} {R : Nat → Nat → Nat} {L : Nat → Nat → Int64} {N : Nat} {σ : SI} {x0 : Nat} {x1 : Nat} {x2 : Int32} {r : ((Unit ⊕ Nat) × SI)} (h : f_X11_needCharge N R σ x0 x1 x2 = some r) (hSh : ShR R) (hx0 : Ok 194 x0 11) (hx1 : Ok 194 x1 0) : CtX l g 6 yX11_needCharge cX11_needCharge 3 none 194 194 1 6 [.ref (gb g + x0), .ref (gb g + x1), .int x2] (mkS σ R L) (PVX R L r) (PX R L r) := by
  refine vx_ofW (cc := cX11_needCharge) (maxL := 3) (ret := none) (by decide) rfl ?_
  intro p e s m args below meth c s₁ B hml hT hv
  obtain ⟨rfl, hE, hLo, hWd⟩ := hv
  have hr : meth.sig.returnType = none := B.returns
  have C : Cx l g p s m meth c cX11_needCharge 3 RX11 := ⟨B.exec, B.bytes, hml, findClass_of_methodNamed B.named, hE, hLo, B.notSynchronized⟩
  have S : S2 g s σ R L s.heap [] := ⟨hWd, va_S.rf⟩
  have hx := C.1
  have hb := C.2.1
  have hl := lv_entry ([.ref (gb g + x0), .ref (gb g + x1), .int x2]) (n := 3) (Nat.le_of_ble_eq_true rfl)
  rw [lg_entry_eq]
  generalize (lg_sl ([.ref (gb g + x0), .ref (gb g + x1), .int x2]) ++ List.replicate (3 - (lg_sl ([.ref (gb g + x0), .ref (gb g + x1), .int x2])).length) Slot.unset).toArray = ls at hl ⊢
  have hl : lv_has ls 3 [(0, .ref (gb g + x0)), (1, .ref (gb g + x1)), (2, .int x2)] := hl
  generalize hH : s.heap = H at S ⊢
  generalize hlc : ([] : List Loc) = locs at S ⊢
  rw [f_X11_needCharge] at h
  refine lv_iload_n hx hb dX11_needCharge_0 rfl (lv_at hl 2 rfl) ?_
  refine lv_if_lt (tgt := 12) hx hb dX11_needCharge_1 (by decide) (fun c1 => ?_) (fun c1 => ?_)
  · have h := it_p c1 h
    exact w_X11_needCharge_12 C hr hT hSh σ h H locs ls S (lv_sub hl [] rfl)
  · have h := it_n c1 h
    refine lv_iload_n hx hb dX11_needCharge_4 rfl (lv_at hl 2 rfl) ?_
    refine lv_aload_n hx hb dX11_needCharge_5 rfl (lv_at hl 1 rfl) ?_
    refine x_getI C S KX0 hx1 7 (by decide) rfl rfl fl_RX11_129 dX11_needCharge_6 ?_
    refine lv_icmp_lt (tgt := 23) hx hb dX11_needCharge_9 (by decide) (fun c2 => ?_) (fun c2 => ?_)
    · have h := it_p c2 h
      exact x_vretX C S hr (by decide) (by decide) h dX11_needCharge_23
    · have h := it_n c2 h
      exact w_X11_needCharge_12 C hr hT hSh σ h H locs ls S (lv_sub hl [] rfl)
theorem dX11_needRange_0 : decode cX11_needRange 0 = .ok (.iload_n 1, 1) := by decide +kernel
theorem dX11_needRange_1 : decode cX11_needRange 1 = .ok (.iload_n 2, 1) := by decide +kernel
theorem dX11_needRange_2 : decode cX11_needRange 2 = .ok (.if_icmp .lt 8, 3) := by decide +kernel
theorem dX11_needRange_5 : decode cX11_needRange 5 = .ok (.iload_n 1, 1) := by decide +kernel
theorem dX11_needRange_6 : decode cX11_needRange 6 = .ok (.iload_n 3, 1) := by decide +kernel
theorem dX11_needRange_7 : decode cX11_needRange 7 = .ok (.if_icmp .le 14, 3) := by decide +kernel
theorem dX11_needRange_10 : decode cX11_needRange 10 = .ok (.new 90, 3) := by decide +kernel
theorem dX11_needRange_13 : decode cX11_needRange 13 = .ok (.dup, 1) := by decide +kernel
theorem dX11_needRange_14 : decode cX11_needRange 14 = .ok (.ldc_w 379, 3) := by decide +kernel
theorem dX11_needRange_17 : decode cX11_needRange 17 = .ok (.invokespecial 94, 3) := by decide +kernel
theorem dX11_needRange_20 : decode cX11_needRange 20 = .ok (.athrow, 1) := by decide +kernel
theorem dX11_needRange_21 : decode cX11_needRange 21 = .ok (.return_, 1) := by decide +kernel
def f_X11_needRange_10 (N : Nat) (R : Nat → Nat → Nat) (σ : SI) : Option ((Unit ⊕ Nat) × SI) := some (.inr 1, σ)
def f_X11_needRange (N : Nat) (R : Nat → Nat → Nat) (σ : SI) (x0 : Nat) (x1 : Int32) (x2 : Int32) (x3 : Int32) : Option ((Unit ⊕ Nat) × SI) := if x1 < x2 then (f_X11_needRange_10 N R σ) else (if x1 ≤ x3 then (some (.inl (), σ)) else (f_X11_needRange_10 N R σ))
set_option maxHeartbeats 4000000 in
set_option maxRecDepth 100000 in
theorem w_X11_needRange_10 {l : Launch} {g : GL} {p : Program} {e : Jvm.Env} {s : State} {m : MethodId} {args : Array Value} {below : List Frame} {meth : Method} {c : Code} {R : Nat → Nat → Nat} {L : Nat → Nat → Int64} {r : ((Unit ⊕ Nat) × SI)} {N : Nat} (C : Cx l g p s m meth c cX11_needRange 4 RX11) (hr : meth.sig.returnType = none) (hT : ∀ x ∈ c.exceptionTable.toList, False) (hSh : ShR R) : ∀ (σ : SI), f_X11_needRange_10 N R σ = some r → ∀ (H : Heap) (locs : List Loc) (ls : Array Slot), S2 g s σ R L H locs → lv_has ls 4 [] → W p l e (rmd 6 1 6) s m args below meth c H locs 0 0 (vx_MQ below (Qg g 194 (PVX R L r)) (Xg g 194 (PX R L r)) args s 1 6 (gA g)) (F0 m 10 ls []) := by
  have hx := C.1
  have hb := C.2.1
  intro σ h H locs ls S hl
  rw [f_X11_needRange_10] at h
  exact x_throwW (q := 1) C S (by decide) cl_RX11_90 ni_ex1 (show (RX11, 379, "out of range", 17) ∈ strTab by decide) at_RX11_94 hl.1 dX11_needRange_10 dX11_needRange_13 dX11_needRange_14 dX11_needRange_17 dX11_needRange_20 hT (by decide) (Nat.le_of_ble_eq_true rfl) (by decide) (by decide) (by decide) (by decide) rfl h
set_option maxHeartbeats 4000000 in
set_option maxRecDepth 100000 in
theorem ok_X11_needRange {l : Launch} {g : GL} {R : Nat → Nat → Nat} {L : Nat → Nat → Int64} {N : Nat} {σ : SI} {x0 : Nat} {x1 : Int32} {x2 : Int32} {x3 : Int32} {r : ((Unit ⊕ Nat) × SI)} (h : f_X11_needRange N R σ x0 x1 x2 x3 = some r) (hSh : ShR R) (hx0 : Ok 194 x0 11) : CtX l g 6 yX11_needRange cX11_needRange 4 none 194 194 1 6 [.ref (gb g + x0), .int x1, .int x2, .int x3] (mkS σ R L) (PVX R L r) (PX R L r) := by
  refine vx_ofW (cc := cX11_needRange) (maxL := 4) (ret := none) (by decide) rfl ?_
  intro p e s m args below meth c s₁ B hml hT hv
  obtain ⟨rfl, hE, hLo, hWd⟩ := hv
  have hr : meth.sig.returnType = none := B.returns
  have C : Cx l g p s m meth c cX11_needRange 4 RX11 := ⟨B.exec, B.bytes, hml, findClass_of_methodNamed B.named, hE, hLo, B.notSynchronized⟩
  have S : S2 g s σ R L s.heap [] := ⟨hWd, va_S.rf⟩
  have hx := C.1
  have hb := C.2.1
  have hl := lv_entry ([.ref (gb g + x0), .int x1, .int x2, .int x3]) (n := 4) (Nat.le_of_ble_eq_true rfl)
  rw [lg_entry_eq]
  generalize (lg_sl ([.ref (gb g + x0), .int x1, .int x2, .int x3]) ++ List.replicate (4 - (lg_sl ([.ref (gb g + x0), .int x1, .int x2, .int x3])).length) Slot.unset).toArray = ls at hl ⊢
  have hl : lv_has ls 4 [(0, .ref (gb g + x0)), (1, .int x1), (2, .int x2), (3, .int x3)] := hl
  generalize hH : s.heap = H at S ⊢
  generalize hlc : ([] : List Loc) = locs at S ⊢
  rw [f_X11_needRange] at h
  refine lv_iload_n hx hb dX11_needRange_0 rfl (lv_at hl 1 rfl) ?_
  refine lv_iload_n hx hb dX11_needRange_1 rfl (lv_at hl 2 rfl) ?_
  refine lv_icmp_lt (tgt := 10) hx hb dX11_needRange_2 (by decide) (fun c1 => ?_) (fun c1 => ?_)
  · have h := it_p c1 h
    exact w_X11_needRange_10 C hr hT hSh σ h H locs ls S (lv_sub hl [] rfl)
  · have h := it_n c1 h
    refine lv_iload_n hx hb dX11_needRange_5 rfl (lv_at hl 1 rfl) ?_
    refine lv_iload_n hx hb dX11_needRange_6 rfl (lv_at hl 3 rfl) ?_
    refine lv_icmp_le (tgt := 21) hx hb dX11_needRange_7 (by decide) (fun c2 => ?_) (fun c2 => ?_)
    · have h := it_p c2 h
      exact x_vretX C S hr (by decide) (by decide) h dX11_needRange_21
    · have h := it_n c2 h
      exact w_X11_needRange_10 C hr hT hSh σ h H locs ls S (lv_sub hl [] rfl)
theorem dX11_needScheduled_0 : decode cX11_needScheduled 0 = .ok (.aload_n 0, 1) := by decide +kernel
theorem dX11_needScheduled_1 : decode cX11_needScheduled 1 = .ok (.getfield 61, 3) := by decide +kernel
theorem dX11_needScheduled_4 : decode cX11_needScheduled 4 = .ok (.getfield 228, 3) := by decide +kernel
theorem dX11_needScheduled_7 : decode cX11_needScheduled 7 = .ok (.iload_n 1, 1) := by decide +kernel
theorem dX11_needScheduled_8 : decode cX11_needScheduled 8 = .ok (.iaload, 1) := by decide +kernel
theorem dX11_needScheduled_9 : decode cX11_needScheduled 9 = .ok (.iconst (-1), 1) := by decide +kernel
theorem dX11_needScheduled_10 : decode cX11_needScheduled 10 = .ok (.if_icmp .eq 18, 3) := by decide +kernel
theorem dX11_needScheduled_13 : decode cX11_needScheduled 13 = .ok (.aload_n 0, 1) := by decide +kernel
theorem dX11_needScheduled_14 : decode cX11_needScheduled 14 = .ok (.getfield 61, 3) := by decide +kernel
theorem dX11_needScheduled_17 : decode cX11_needScheduled 17 = .ok (.getfield 361, 3) := by decide +kernel
theorem dX11_needScheduled_20 : decode cX11_needScheduled 20 = .ok (.iload_n 1, 1) := by decide +kernel
theorem dX11_needScheduled_21 : decode cX11_needScheduled 21 = .ok (.aaload, 1) := by decide +kernel
theorem dX11_needScheduled_22 : decode cX11_needScheduled 22 = .ok (.getfield 231, 3) := by decide +kernel
theorem dX11_needScheduled_25 : decode cX11_needScheduled 25 = .ok (.ifCond .eq 14, 3) := by decide +kernel
theorem dX11_needScheduled_28 : decode cX11_needScheduled 28 = .ok (.new 257, 3) := by decide +kernel
theorem dX11_needScheduled_31 : decode cX11_needScheduled 31 = .ok (.dup, 1) := by decide +kernel
theorem dX11_needScheduled_32 : decode cX11_needScheduled 32 = .ok (.ldc_w 381, 3) := by decide +kernel
theorem dX11_needScheduled_35 : decode cX11_needScheduled 35 = .ok (.invokespecial 261, 3) := by decide +kernel
theorem dX11_needScheduled_38 : decode cX11_needScheduled 38 = .ok (.athrow, 1) := by decide +kernel
theorem dX11_needScheduled_39 : decode cX11_needScheduled 39 = .ok (.return_, 1) := by decide +kernel
def f_X11_needScheduled_28 (N : Nat) (R : Nat → Nat → Nat) (σ : SI) : Option ((Unit ⊕ Nat) × SI) := some (.inr 2, σ)
def f_X11_needScheduled (N : Nat) (R : Nat → Nat → Nat) (σ : SI) (x0 : Nat) (x1 : Int32) : Option ((Unit ⊕ Nat) × SI) := ck x1 6 (if (σ (R (R x0 8) 6) x1.toNatClampNeg) = (-1 : Int32) then (f_X11_needScheduled_28 N R σ) else (ck x1 6 (if (σ (R (R (R x0 8) 2) x1.toNatClampNeg) 13) = 0 then (some (.inl (), σ)) else (f_X11_needScheduled_28 N R σ))))
set_option maxHeartbeats 4000000 in
set_option maxRecDepth 100000 in
theorem w_X11_needScheduled_28 {l : Launch} {g : GL} {p : Program} {e : Jvm.Env} {s : State} {m : MethodId} {args : Array Value} {below : List Frame} {meth : Method} {c : Code} {R : Nat → Nat → Nat} {L : Nat → Nat → Int64} {r : ((Unit ⊕ Nat) × SI)} {N : Nat} (C : Cx l g p s m meth c cX11_needScheduled 2 RX11) (hr : meth.sig.returnType = none) (hT : ∀ x ∈ c.exceptionTable.toList, False) (hSh : ShR R) : ∀ (σ : SI), f_X11_needScheduled_28 N R σ = some r → ∀ (H : Heap) (locs : List Loc) (ls : Array Slot), S2 g s σ R L H locs → lv_has ls 2 [] → W p l e (rmd 6 1 6) s m args below meth c H locs 0 0 (vx_MQ below (Qg g 194 (PVX R L r)) (Xg g 194 (PX R L r)) args s 1 6 (gA g)) (F0 m 28 ls []) := by
  have hx := C.1
  have hb := C.2.1
  intro σ h H locs ls S hl
  rw [f_X11_needScheduled_28] at h
  exact x_throwW (q := 2) C S (by decide) cl_RX11_257 ni_ex2 (show (RX11, 381, "the blast is open or fired", 20) ∈ strTab by decide) at_RX11_261 hl.1 dX11_needScheduled_28 dX11_needScheduled_31 dX11_needScheduled_32 dX11_needScheduled_35 dX11_needScheduled_38 hT (by decide) (Nat.le_of_ble_eq_true rfl) (by decide) (by decide) (by decide) (by decide) rfl h
set_option maxHeartbeats 4000000 in
set_option maxRecDepth 100000 in
theorem ok_X11_needScheduled {l : Launch} {g : GL} {R : Nat → Nat → Nat} {L : Nat → Nat → Int64} {N : Nat} {σ : SI} {x0 : Nat} {x1 : Int32} {r : ((Unit ⊕ Nat) × SI)} (h : f_X11_needScheduled N R σ x0 x1 = some r) (hSh : ShR R) (hx0 : Ok 194 x0 11) : CtX l g 6 yX11_needScheduled cX11_needScheduled 2 none 194 194 1 6 [.ref (gb g + x0), .int x1] (mkS σ R L) (PVX R L r) (PX R L r) := by
  refine vx_ofW (cc := cX11_needScheduled) (maxL := 2) (ret := none) (by decide) rfl ?_
  intro p e s m args below meth c s₁ B hml hT hv
  obtain ⟨rfl, hE, hLo, hWd⟩ := hv
  have hr : meth.sig.returnType = none := B.returns
  have C : Cx l g p s m meth c cX11_needScheduled 2 RX11 := ⟨B.exec, B.bytes, hml, findClass_of_methodNamed B.named, hE, hLo, B.notSynchronized⟩
  have S : S2 g s σ R L s.heap [] := ⟨hWd, va_S.rf⟩
  have hx := C.1
  have hb := C.2.1
  have hl := lv_entry ([.ref (gb g + x0), .int x1]) (n := 2) (Nat.le_of_ble_eq_true rfl)
  rw [lg_entry_eq]
  generalize (lg_sl ([.ref (gb g + x0), .int x1]) ++ List.replicate (2 - (lg_sl ([.ref (gb g + x0), .int x1])).length) Slot.unset).toArray = ls at hl ⊢
  have hl : lv_has ls 2 [(0, .ref (gb g + x0)), (1, .int x1)] := hl
  generalize hH : s.heap = H at S ⊢
  generalize hlc : ([] : List Loc) = locs at S ⊢
  rw [f_X11_needScheduled] at h
  refine lv_aload_n hx hb dX11_needScheduled_0 rfl (lv_at hl 0 rfl) ?_
  have hR1 : Ok 194 (R x0 8) 9 := hSh x0 11 8 9 hx0.1 rfl
  refine x_getR C S KX11 hx0 8 (by decide) rfl rfl fl_RX11_61 hR1 dX11_needScheduled_1 ?_
  have hR2 : Ok 194 (R (R x0 8) 6) 10006 := hSh (R x0 8) 9 6 10006 hR1.1 rfl
  refine x_getR C S KX9 hR1 6 (by decide) rfl rfl fl_RX11_228 hR2 dX11_needScheduled_4 ?_
  refine lv_iload_n hx hb dX11_needScheduled_7 rfl (lv_at hl 1 rfl) ?_
  obtain ⟨hi3, h⟩ := ck_el h
  refine x_iald (len := 6) C S (by decide) hR2 hi3 dX11_needScheduled_8 ?_
  refine lv_iconst (v := (-1 : Int32)) hx hb dX11_needScheduled_9 (by decide) ?_
  refine lv_icmp_eq (tgt := 28) hx hb dX11_needScheduled_10 (by decide) (fun c4 => ?_) (fun c4 => ?_)
  · have h := it_p c4 h
    exact w_X11_needScheduled_28 C hr hT hSh σ h H locs ls S (lv_sub hl [] rfl)
  · have h := it_n c4 h
    refine lv_aload_n hx hb dX11_needScheduled_13 rfl (lv_at hl 0 rfl) ?_
    have hR5 : Ok 194 (R x0 8) 9 := hSh x0 11 8 9 hx0.1 rfl
    refine x_getR C S KX11 hx0 8 (by decide) rfl rfl fl_RX11_61 hR5 dX11_needScheduled_14 ?_
    have hR6 : Ok 194 (R (R x0 8) 2) 50006 := hSh (R x0 8) 9 2 50006 hR5.1 rfl
    refine x_getR C S KX9 hR5 2 (by decide) rfl rfl fl_RX11_361 hR6 dX11_needScheduled_17 ?_
    refine lv_iload_n hx hb dX11_needScheduled_20 rfl (lv_at hl 1 rfl) ?_
    obtain ⟨hi7, h⟩ := ck_el h
    have hR8 : Ok 194 (R (R (R x0 8) 2) x1.toNatClampNeg) 0 := hSh (R (R x0 8) 2) 50006 x1.toNatClampNeg 0 hR6.1 (if_pos (vp_lt hi7))
    refine x_aald (len := 6) C S (by decide) 4 (by decide) rfl hR6 hi7 hR8 dX11_needScheduled_21 ?_
    refine x_getI C S KX0 hR8 13 (by decide) rfl rfl fl_RX11_231 dX11_needScheduled_22 ?_
    refine lv_if_eq (tgt := 39) hx hb dX11_needScheduled_25 (by decide) (fun c9 => ?_) (fun c9 => ?_)
    · have h := it_p c9 h
      exact x_vretX C S hr (by decide) (by decide) h dX11_needScheduled_39
    · have h := it_n c9 h
      exact w_X11_needScheduled_28 C hr hT hSh σ h H locs ls S (lv_sub hl [] rfl)
theorem dX12_takesWord_0 : decode cX12_takesWord 0 = .ok (.aload_n 0, 1) := by decide +kernel
theorem dX12_takesWord_1 : decode cX12_takesWord 1 = .ok (.invokevirtual 40, 3) := by decide +kernel
theorem dX12_takesWord_4 : decode cX12_takesWord 4 = .ok (.ifCond .ne 18, 3) := by decide +kernel
theorem dX12_takesWord_7 : decode cX12_takesWord 7 = .ok (.aload_n 0, 1) := by decide +kernel
theorem dX12_takesWord_8 : decode cX12_takesWord 8 = .ok (.invokevirtual 51, 3) := by decide +kernel
theorem dX12_takesWord_11 : decode cX12_takesWord 11 = .ok (.aload_n 1, 1) := by decide +kernel
theorem dX12_takesWord_12 : decode cX12_takesWord 12 = .ok (.invokevirtual 55, 3) := by decide +kernel
theorem dX12_takesWord_15 : decode cX12_takesWord 15 = .ok (.if_icmp .ne 7, 3) := by decide +kernel
theorem dX12_takesWord_18 : decode cX12_takesWord 18 = .ok (.iconst 1, 1) := by decide +kernel
theorem dX12_takesWord_19 : decode cX12_takesWord 19 = .ok (.goto 4, 3) := by decide +kernel
theorem dX12_takesWord_22 : decode cX12_takesWord 22 = .ok (.iconst 0, 1) := by decide +kernel
theorem dX12_takesWord_23 : decode cX12_takesWord 23 = .ok (.istore_n 2, 1) := by decide +kernel
theorem dX12_takesWord_24 : decode cX12_takesWord 24 = .ok (.iconst 0, 1) := by decide +kernel
theorem dX12_takesWord_25 : decode cX12_takesWord 25 = .ok (.istore_n 3, 1) := by decide +kernel
theorem dX12_takesWord_26 : decode cX12_takesWord 26 = .ok (.iload_n 2, 1) := by decide +kernel
theorem dX12_takesWord_27 : decode cX12_takesWord 27 = .ok (.ifCond .eq 42, 3) := by decide +kernel
theorem dX12_takesWord_30 : decode cX12_takesWord 30 = .ok (.iload_n 3, 1) := by decide +kernel
theorem dX12_takesWord_31 : decode cX12_takesWord 31 = .ok (.aload_n 1, 1) := by decide +kernel
theorem dX12_takesWord_32 : decode cX12_takesWord 32 = .ok (.invokevirtual 55, 3) := by decide +kernel
theorem dX12_takesWord_35 : decode cX12_takesWord 35 = .ok (.if_icmp .ge 34, 3) := by decide +kernel
theorem dX12_takesWord_38 : decode cX12_takesWord 38 = .ok (.aload_n 0, 1) := by decide +kernel
theorem dX12_takesWord_39 : decode cX12_takesWord 39 = .ok (.getfield 14, 3) := by decide +kernel
theorem dX12_takesWord_42 : decode cX12_takesWord 42 = .ok (.aload_n 0, 1) := by decide +kernel
theorem dX12_takesWord_43 : decode cX12_takesWord 43 = .ok (.getfield 27, 3) := by decide +kernel
theorem dX12_takesWord_46 : decode cX12_takesWord 46 = .ok (.iload_n 3, 1) := by decide +kernel
theorem dX12_takesWord_47 : decode cX12_takesWord 47 = .ok (.iadd, 1) := by decide +kernel
theorem dX12_takesWord_48 : decode cX12_takesWord 48 = .ok (.baload, 1) := by decide +kernel
theorem dX12_takesWord_49 : decode cX12_takesWord 49 = .ok (.aload_n 1, 1) := by decide +kernel
theorem dX12_takesWord_50 : decode cX12_takesWord 50 = .ok (.iload_n 3, 1) := by decide +kernel
theorem dX12_takesWord_51 : decode cX12_takesWord 51 = .ok (.invokevirtual 60, 3) := by decide +kernel
theorem dX12_takesWord_54 : decode cX12_takesWord 54 = .ok (.if_icmp .ne 7, 3) := by decide +kernel
theorem dX12_takesWord_57 : decode cX12_takesWord 57 = .ok (.iconst 1, 1) := by decide +kernel
theorem dX12_takesWord_58 : decode cX12_takesWord 58 = .ok (.goto 4, 3) := by decide +kernel
theorem dX12_takesWord_61 : decode cX12_takesWord 61 = .ok (.iconst 0, 1) := by decide +kernel
theorem dX12_takesWord_62 : decode cX12_takesWord 62 = .ok (.istore_n 2, 1) := by decide +kernel
theorem dX12_takesWord_63 : decode cX12_takesWord 63 = .ok (.iinc 3 1, 3) := by decide +kernel
theorem dX12_takesWord_66 : decode cX12_takesWord 66 = .ok (.goto (-40), 3) := by decide +kernel
theorem dX12_takesWord_69 : decode cX12_takesWord 69 = .ok (.iload_n 2, 1) := by decide +kernel
theorem dX12_takesWord_70 : decode cX12_takesWord 70 = .ok (.ifCond .eq 16, 3) := by decide +kernel
theorem dX12_takesWord_73 : decode cX12_takesWord 73 = .ok (.aload_n 0, 1) := by decide +kernel
theorem dX12_takesWord_74 : decode cX12_takesWord 74 = .ok (.dup, 1) := by decide +kernel
theorem dX12_takesWord_75 : decode cX12_takesWord 75 = .ok (.getfield 27, 3) := by decide +kernel
theorem dX12_takesWord_78 : decode cX12_takesWord 78 = .ok (.aload_n 1, 1) := by decide +kernel
theorem dX12_takesWord_79 : decode cX12_takesWord 79 = .ok (.invokevirtual 55, 3) := by decide +kernel
theorem dX12_takesWord_82 : decode cX12_takesWord 82 = .ok (.iadd, 1) := by decide +kernel
theorem dX12_takesWord_83 : decode cX12_takesWord 83 = .ok (.putfield 27, 3) := by decide +kernel
theorem dX12_takesWord_86 : decode cX12_takesWord 86 = .ok (.iload_n 2, 1) := by decide +kernel
theorem dX12_takesWord_87 : decode cX12_takesWord 87 = .ok (.ireturn, 1) := by decide +kernel
def f_X12_takesWord_69 (N : Nat) (R : Nat → Nat → Nat) (σ : SI) (x0 : Nat) (x1 : Nat) (x2 : Int32) : Option (Int32 × SI) := if x2 = 0 then (cb x2 (some (x2, σ))) else (sq (up σ x0 4 ((σ x0 4) + (lnS x1))) (fun σ6 => cb x2 (some (x2, σ6))))
def f_X12_takesWord_26 (N : Nat) (R : Nat → Nat → Nat) : Nat → SI → Nat → Nat → Int32 → Int32 → Option (Int32 × SI)
  | 0, _, _, _, _, _ => none
  | n + 1, σ, x0, x1, x2, x3 => if x2 = 0 then (f_X12_takesWord_69 N R σ x0 x1 x2) else (if (lnS x1) ≤ x3 then (f_X12_takesWord_69 N R σ x0 x1 x2) else (ck ((σ x0 4) + x3) 800 (ck x3 (strLen.getD x1 0) (if (σ (R x0 1) ((σ x0 4) + x3).toNatClampNeg) = (chS x1 x3) then (f_X12_takesWord_26 N R n σ x0 x1 (1 : Int32) (x3 + 1)) else (f_X12_takesWord_26 N R n σ x0 x1 (0 : Int32) (x3 + 1))))))
def f_X12_takesWord_22 (N : Nat) (R : Nat → Nat → Nat) (σ : SI) (x0 : Nat) (x1 : Nat) : Option (Int32 × SI) := f_X12_takesWord_26 N R N σ x0 x1 (0 : Int32) (0 : Int32)
def f_X12_takesWord (N : Nat) (R : Nat → Nat → Nat) (σ : SI) (x0 : Nat) (x1 : Nat) : Option (Int32 × SI) := bd (f_X12_hasFailed N R σ x0) (fun a1 σ1 => if a1 = 0 then (bd (f_X12_letters N R σ1 x0) (fun a13 σ13 => if a13 = (lnS x1) then (f_X12_takesWord_26 N R N σ13 x0 x1 (1 : Int32) (0 : Int32)) else (f_X12_takesWord_22 N R σ13 x0 x1))) else (f_X12_takesWord_22 N R σ1 x0 x1))
set_option maxHeartbeats 4000000 in
set_option maxRecDepth 100000 in
theorem w_X12_takesWord_69 {l : Launch} {g : GL} {p : Program} {e : Jvm.Env} {s : State} {m : MethodId} {args : Array Value} {below : List Frame} {meth : Method} {c : Code} {R : Nat → Nat → Nat} {L : Nat → Nat → Int64} {r : (Int32 × SI)} {N : Nat} (C : Cx l g p s m meth c cX12_takesWord 4 RX12) (hr : meth.sig.returnType = (some .boolean)) (hSh : ShR R) : ∀ (σ : SI) (x0 : Nat) (x1 : Nat) (x2 : Int32), f_X12_takesWord_69 N R σ x0 x1 x2 = some r → Ok 194 x0 12 → x1 < 13 → ∀ (H : Heap) (locs : List Loc) (ls : Array Slot), S2 g s σ R L H locs → lv_has ls 4 [(0, .ref (gb g + x0)), (1, .ref (gS g x1)), (2, .int x2)] → W p l e (rmd 5 0 0) s m args below meth c H locs 0 0 (MQ below (Qg g 194 (PI R L r)) args s 0 0 (gA g)) (F0 m 69 ls []) := by
  have hx := C.1
  have hb := C.2.1
  intro σ x0 x1 x2 h hx0 hx1 H locs ls S hl
  rw [f_X12_takesWord_69] at h
  refine lv_iload_n hx hb dX12_takesWord_69 rfl (lv_at hl 2 rfl) ?_
  refine lv_if_eq (tgt := 86) hx hb dX12_takesWord_70 (by decide) (fun c4 => ?_) (fun c4 => ?_)
  · have h := it_p c4 h
    refine lv_iload_n hx hb dX12_takesWord_86 rfl (lv_at hl 2 rfl) ?_
    obtain ⟨hb5, h⟩ := cb_el h
    exact x_zret C S hr hb5 h dX12_takesWord_87
  · have h := it_n c4 h
    refine lv_aload_n hx hb dX12_takesWord_73 rfl (lv_at hl 0 rfl) ?_
    refine lv_dup hx hb dX12_takesWord_74 rfl ?_
    refine x_getI C S KX12 hx0 4 (by decide) rfl rfl fl_RX12_27 dX12_takesWord_75 ?_
    refine lv_aload_n hx hb dX12_takesWord_78 rfl (lv_at hl 1 rfl) ?_
    refine x_callJ C S hx1 (ok_length (L := L) hx1) ⟨jc_length, jn_RJ0, ml_RX12_55, ji_length, js_length⟩ ⟨by decide, by decide⟩ rfl (rm_ok (by decide) (by decide)) hl.1 rfl (Nat.le_of_ble_eq_true rfl) ⟨by decide, by decide⟩ dX12_takesWord_79 (fun H locs S => ?_)
    refine lv_iadd hx hb dX12_takesWord_82 ?_
    obtain ⟨σ6, hs6, h⟩ := sq_el h
    refine x_putI C S KX12 hx0 4 (by decide) rfl rfl rfl ⟨rfl, rfl⟩ fl_RX12_27 dX12_takesWord_83 hs6 (fun H locs S => ?_)
    refine lv_iload_n hx hb dX12_takesWord_86 rfl (lv_at hl 2 rfl) ?_
    obtain ⟨hb7, h⟩ := cb_el h
    exact x_zret C S hr hb7 h dX12_takesWord_87
set_option maxHeartbeats 4000000 in
set_option maxRecDepth 100000 in
theorem w_X12_takesWord_26 {l : Launch} {g : GL} {p : Program} {e : Jvm.Env} {s : State} {m : MethodId} {args : Array Value} {below : List Frame} {meth : Method} {c : Code} {R : Nat → Nat → Nat} {L : Nat → Nat → Int64} {r : (Int32 × SI)} {N : Nat} (C : Cx l g p s m meth c cX12_takesWord 4 RX12) (hr : meth.sig.returnType = (some .boolean)) (hSh : ShR R) : ∀ (n : Nat) (σ : SI) (x0 : Nat) (x1 : Nat) (x2 : Int32) (x3 : Int32), f_X12_takesWord_26 N R n σ x0 x1 x2 x3 = some r → Ok 194 x0 12 → x1 < 13 → ∀ (H : Heap) (locs : List Loc) (ls : Array Slot), S2 g s σ R L H locs → lv_has ls 4 [(0, .ref (gb g + x0)), (1, .ref (gS g x1)), (2, .int x2), (3, .int x3)] → W p l e (rmd 5 0 0) s m args below meth c H locs 0 0 (MQ below (Qg g 194 (PI R L r)) args s 0 0 (gA g)) (F0 m 26 ls []) := by
  have hx := C.1
  have hb := C.2.1
  intro n
  induction n with
  | zero =>
    intro σ x0 x1 x2 x3 h
    cases (show (none : Option (Int32 × SI)) = some r from h)
  | succ n ih =>
    intro σ x0 x1 x2 x3 h hx0 hx1 H locs ls S hl
    rw [f_X12_takesWord_26] at h
    refine lv_iload_n hx hb dX12_takesWord_26 rfl (lv_at hl 2 rfl) ?_
    refine lv_if_eq (tgt := 69) hx hb dX12_takesWord_27 (by decide) (fun c3 => ?_) (fun c3 => ?_)
    · have h := it_p c3 h
      exact w_X12_takesWord_69 C hr hSh σ x0 x1 x2 h hx0 hx1 H locs ls S (lv_sub hl [0, 1, 2] rfl)
    · have h := it_n c3 h
      refine lv_iload_n hx hb dX12_takesWord_30 rfl (lv_at hl 3 rfl) ?_
      refine lv_aload_n hx hb dX12_takesWord_31 rfl (lv_at hl 1 rfl) ?_
      refine x_callJ C S hx1 (ok_length (L := L) hx1) ⟨jc_length, jn_RJ0, ml_RX12_55, ji_length, js_length⟩ ⟨by decide, by decide⟩ rfl (rm_ok (by decide) (by decide)) hl.1 rfl (Nat.le_of_ble_eq_true rfl) ⟨by decide, by decide⟩ dX12_takesWord_32 (fun H locs S => ?_)
      refine lv_icmp_ge (tgt := 69) hx hb dX12_takesWord_35 (by decide) (fun c8 => ?_) (fun c8 => ?_)
      · have h := it_p c8 h
        exact w_X12_takesWord_69 C hr hSh σ x0 x1 x2 h hx0 hx1 H locs ls S (lv_sub hl [0, 1, 2] rfl)
      · have h := it_n c8 h
        refine lv_aload_n hx hb dX12_takesWord_38 rfl (lv_at hl 0 rfl) ?_
        have hR9 : Ok 194 (R x0 1) 20800 := hSh x0 12 1 20800 hx0.1 rfl
        refine x_getR C S KX12 hx0 1 (by decide) rfl rfl fl_RX12_14 hR9 dX12_takesWord_39 ?_
        refine lv_aload_n hx hb dX12_takesWord_42 rfl (lv_at hl 0 rfl) ?_
        refine x_getI C S KX12 hx0 4 (by decide) rfl rfl fl_RX12_27 dX12_takesWord_43 ?_
        refine lv_iload_n hx hb dX12_takesWord_46 rfl (lv_at hl 3 rfl) ?_
        refine lv_iadd hx hb dX12_takesWord_47 ?_
        obtain ⟨hi10, h⟩ := ck_el h
        refine x_bald (len := 800) C S (by decide) hR9 hi10 dX12_takesWord_48 ?_
        refine lv_aload_n hx hb dX12_takesWord_49 rfl (lv_at hl 1 rfl) ?_
        refine lv_iload_n hx hb dX12_takesWord_50 rfl (lv_at hl 3 rfl) ?_
        obtain ⟨hi11, h⟩ := ck_el h
        refine x_callJ C S hx1 (ok_charAt (L := L) hx1 hi11) ⟨jc_charAt, jn_RJ0, ml_RX12_60, ji_charAt, js_charAt⟩ ⟨by decide, by decide⟩ rfl (rm_ok (by decide) (by decide)) hl.1 rfl (Nat.le_of_ble_eq_true rfl) ⟨by decide, by decide⟩ dX12_takesWord_51 (fun H locs S => ?_)
        refine lv_icmp_ne (tgt := 61) hx hb dX12_takesWord_54 (by decide) (fun c12 => ?_) (fun c12 => ?_)
        · have h := it_n c12 h
          refine lv_iconst (v := (0 : Int32)) hx hb dX12_takesWord_61 (by decide) ?_
          refine lv_istore_n (lv' := [(2, .int (0 : Int32)), (0, .ref (gb g + x0)), (1, .ref (gS g x1)), (3, .int x3)]) hx hb dX12_takesWord_62 rfl hl (by decide) rfl (fun ls hl => ?_)
          refine lv_iinc (v := x3 + 1) (lv' := [(3, .int (x3 + 1)), (2, .int (0 : Int32)), (0, .ref (gb g + x0)), (1, .ref (gS g x1))]) hx hb dX12_takesWord_63 hl (k := 3) rfl rfl (by decide) rfl (fun ls hl => ?_)
          refine lv_goto (tgt := 26) hx hb dX12_takesWord_66 (by decide) ?_
          exact ih σ x0 x1 (0 : Int32) (x3 + 1) h hx0 hx1 H locs ls S (lv_sub hl [2, 3, 1, 0] rfl)
        · have h := it_p c12 h
          refine lv_iconst (v := (1 : Int32)) hx hb dX12_takesWord_57 (by decide) ?_
          refine lv_goto (tgt := 62) hx hb dX12_takesWord_58 (by decide) ?_
          refine lv_istore_n (lv' := [(2, .int (1 : Int32)), (0, .ref (gb g + x0)), (1, .ref (gS g x1)), (3, .int x3)]) hx hb dX12_takesWord_62 rfl hl (by decide) rfl (fun ls hl => ?_)
          refine lv_iinc (v := x3 + 1) (lv' := [(3, .int (x3 + 1)), (2, .int (1 : Int32)), (0, .ref (gb g + x0)), (1, .ref (gS g x1))]) hx hb dX12_takesWord_63 hl (k := 3) rfl rfl (by decide) rfl (fun ls hl => ?_)
          refine lv_goto (tgt := 26) hx hb dX12_takesWord_66 (by decide) ?_
          exact ih σ x0 x1 (1 : Int32) (x3 + 1) h hx0 hx1 H locs ls S (lv_sub hl [2, 3, 1, 0] rfl)
set_option maxHeartbeats 4000000 in
set_option maxRecDepth 100000 in
theorem w_X12_takesWord_22 {l : Launch} {g : GL} {p : Program} {e : Jvm.Env} {s : State} {m : MethodId} {args : Array Value} {below : List Frame} {meth : Method} {c : Code} {R : Nat → Nat → Nat} {L : Nat → Nat → Int64} {r : (Int32 × SI)} {N : Nat} (C : Cx l g p s m meth c cX12_takesWord 4 RX12) (hr : meth.sig.returnType = (some .boolean)) (hSh : ShR R) : ∀ (σ : SI) (x0 : Nat) (x1 : Nat), f_X12_takesWord_22 N R σ x0 x1 = some r → Ok 194 x0 12 → x1 < 13 → ∀ (H : Heap) (locs : List Loc) (ls : Array Slot), S2 g s σ R L H locs → lv_has ls 4 [(0, .ref (gb g + x0)), (1, .ref (gS g x1))] → W p l e (rmd 5 0 0) s m args below meth c H locs 0 0 (MQ below (Qg g 194 (PI R L r)) args s 0 0 (gA g)) (F0 m 22 ls []) := by
  have hx := C.1
  have hb := C.2.1
  intro σ x0 x1 h hx0 hx1 H locs ls S hl
  rw [f_X12_takesWord_22] at h
  refine lv_iconst (v := (0 : Int32)) hx hb dX12_takesWord_22 (by decide) ?_
  refine lv_istore_n (lv' := [(2, .int (0 : Int32)), (0, .ref (gb g + x0)), (1, .ref (gS g x1))]) hx hb dX12_takesWord_23 rfl hl (by decide) rfl (fun ls hl => ?_)
  refine lv_iconst (v := (0 : Int32)) hx hb dX12_takesWord_24 (by decide) ?_
  refine lv_istore_n (lv' := [(3, .int (0 : Int32)), (2, .int (0 : Int32)), (0, .ref (gb g + x0)), (1, .ref (gS g x1))]) hx hb dX12_takesWord_25 rfl hl (by decide) rfl (fun ls hl => ?_)
  exact w_X12_takesWord_26 C hr hSh N σ x0 x1 (0 : Int32) (0 : Int32) h hx0 hx1 H locs ls S (lv_sub hl [2, 3, 1, 0] rfl)
set_option maxHeartbeats 4000000 in
set_option maxRecDepth 100000 in
theorem ok_X12_takesWord {l : Launch} {g : GL} {R : Nat → Nat → Nat} {L : Nat → Nat → Int64} {N : Nat} {σ : SI} {x0 : Nat} {x1 : Nat} {r : (Int32 × SI)} (h : f_X12_takesWord N R σ x0 x1 = some r) (hSh : ShR R) (hx0 : Ok 194 x0 12) (hx1 : x1 < 13) : Ct l g 5 yX12_takesWord cX12_takesWord 4 (some .boolean) 194 194 0 0 [.ref (gb g + x0), .ref (gS g x1)] (mkS σ R L) (PI R L r) := by
  refine Met.ofW (cc := cX12_takesWord) (maxL := 4) (ret := (some .boolean)) (by decide) rfl ?_
  intro p e s m args below meth c s₁ B hml hv
  obtain ⟨rfl, hE, hLo, hWd⟩ := hv
  have hr : meth.sig.returnType = (some .boolean) := B.returns
  have C : Cx l g p s m meth c cX12_takesWord 4 RX12 := ⟨B.exec, B.bytes, hml, findClass_of_methodNamed B.named, hE, hLo, B.notSynchronized⟩
  have S : S2 g s σ R L s.heap [] := ⟨hWd, va_S.rf⟩
  have hx := C.1
  have hb := C.2.1
  have hl := lv_entry ([.ref (gb g + x0), .ref (gS g x1)]) (n := 4) (Nat.le_of_ble_eq_true rfl)
  rw [lg_entry_eq]
  generalize (lg_sl ([.ref (gb g + x0), .ref (gS g x1)]) ++ List.replicate (4 - (lg_sl ([.ref (gb g + x0), .ref (gS g x1)])).length) Slot.unset).toArray = ls at hl ⊢
  have hl : lv_has ls 4 [(0, .ref (gb g + x0)), (1, .ref (gS g x1))] := hl
  generalize hH : s.heap = H at S ⊢
  generalize hlc : ([] : List Loc) = locs at S ⊢
  rw [f_X12_takesWord] at h
  refine lv_aload_n hx hb dX12_takesWord_0 rfl (lv_at hl 0 rfl) ?_
  obtain ⟨a1, σ1, hc1, h⟩ := bd_el h
  refine x_callVI C S KX12 hx0 (ok_X12_hasFailed (L := L) hc1 hSh hx0) ⟨cd_X12_hasFailed, ni_RX12, ml_RX12_40, in_X12_hasFailed, sl_X12_hasFailed⟩ ⟨by decide, by decide⟩ rfl (rm_ok (by decide) (by decide)) hl.1 rfl (Nat.le_of_ble_eq_true rfl) ⟨by decide, by decide⟩ dX12_takesWord_1 (fun H locs S => ?_)
  refine lv_if_ne (tgt := 22) hx hb dX12_takesWord_4 (by decide) (fun c2 => ?_) (fun c2 => ?_)
  · have h := it_n c2 h
    exact w_X12_takesWord_22 C hr hSh σ1 x0 x1 h hx0 hx1 H locs ls S (lv_sub hl [0, 1] rfl)
  · have h := it_p c2 h
    refine lv_aload_n hx hb dX12_takesWord_7 rfl (lv_at hl 0 rfl) ?_
    obtain ⟨a13, σ13, hc13, h⟩ := bd_el h
    refine x_callVI C S KX12 hx0 (ok_X12_letters (L := L) hc13 hSh hx0) ⟨cd_X12_letters, ni_RX12, ml_RX12_51, in_X12_letters, sl_X12_letters⟩ ⟨by decide, by decide⟩ rfl (rm_ok (by decide) (by decide)) hl.1 rfl (Nat.le_of_ble_eq_true rfl) ⟨by decide, by decide⟩ dX12_takesWord_8 (fun H locs S => ?_)
    refine lv_aload_n hx hb dX12_takesWord_11 rfl (lv_at hl 1 rfl) ?_
    refine x_callJ C S hx1 (ok_length (L := L) hx1) ⟨jc_length, jn_RJ0, ml_RX12_55, ji_length, js_length⟩ ⟨by decide, by decide⟩ rfl (rm_ok (by decide) (by decide)) hl.1 rfl (Nat.le_of_ble_eq_true rfl) ⟨by decide, by decide⟩ dX12_takesWord_12 (fun H locs S => ?_)
    refine lv_icmp_ne (tgt := 22) hx hb dX12_takesWord_15 (by decide) (fun c14 => ?_) (fun c14 => ?_)
    · have h := it_n c14 h
      exact w_X12_takesWord_22 C hr hSh σ13 x0 x1 h hx0 hx1 H locs ls S (lv_sub hl [0, 1] rfl)
    · have h := it_p c14 h
      refine lv_iconst (v := (1 : Int32)) hx hb dX12_takesWord_18 (by decide) ?_
      refine lv_goto (tgt := 23) hx hb dX12_takesWord_19 (by decide) ?_
      refine lv_istore_n (lv' := [(2, .int (1 : Int32)), (0, .ref (gb g + x0)), (1, .ref (gS g x1))]) hx hb dX12_takesWord_23 rfl hl (by decide) rfl (fun ls hl => ?_)
      refine lv_iconst (v := (0 : Int32)) hx hb dX12_takesWord_24 (by decide) ?_
      refine lv_istore_n (lv' := [(3, .int (0 : Int32)), (2, .int (1 : Int32)), (0, .ref (gb g + x0)), (1, .ref (gS g x1))]) hx hb dX12_takesWord_25 rfl hl (by decide) rfl (fun ls hl => ?_)
      exact w_X12_takesWord_26 C hr hSh N σ13 x0 x1 (1 : Int32) (0 : Int32) h hx0 hx1 H locs ls S (lv_sub hl [2, 3, 1, 0] rfl)
theorem dX12_after_0 : decode cX12_after 0 = .ok (.aload_n 0, 1) := by decide +kernel
theorem dX12_after_1 : decode cX12_after 1 = .ok (.aload_n 1, 1) := by decide +kernel
theorem dX12_after_2 : decode cX12_after 2 = .ok (.invokevirtual 75, 3) := by decide +kernel
theorem dX12_after_5 : decode cX12_after 5 = .ok (.ifCond .ne 9, 3) := by decide +kernel
theorem dX12_after_8 : decode cX12_after 8 = .ok (.aload_n 0, 1) := by decide +kernel
theorem dX12_after_9 : decode cX12_after 9 = .ok (.iconst 0, 1) := by decide +kernel
theorem dX12_after_10 : decode cX12_after 10 = .ok (.iconst 1, 1) := by decide +kernel
theorem dX12_after_11 : decode cX12_after 11 = .ok (.invokevirtual 67, 3) := by decide +kernel
theorem dX12_after_14 : decode cX12_after 14 = .ok (.aload_n 0, 1) := by decide +kernel
theorem dX12_after_15 : decode cX12_after 15 = .ok (.iload_n 2, 1) := by decide +kernel
theorem dX12_after_16 : decode cX12_after 16 = .ok (.iload_n 3, 1) := by decide +kernel
theorem dX12_after_17 : decode cX12_after 17 = .ok (.invokevirtual 79, 3) := by decide +kernel
theorem dX12_after_20 : decode cX12_after 20 = .ok (.ireturn, 1) := by decide +kernel
def f_X12_after_14 (N : Nat) (R : Nat → Nat → Nat) (σ : SI) (x0 : Nat) (x2 : Int32) (x3 : Int32) : Option (Int32 × SI) := bd (f_X12_number N R σ x0 x2 x3) (fun a3 σ3 => some (a3, σ3))
def f_X12_after (N : Nat) (R : Nat → Nat → Nat) (σ : SI) (x0 : Nat) (x1 : Nat) (x2 : Int32) (x3 : Int32) : Option (Int32 × SI) := bd (f_X12_takesWord N R σ x0 x1) (fun a1 σ1 => if a1 = 0 then (bd (f_X12_must N R σ1 x0 (0 : Int32) (1 : Int32)) (fun _ σ4 => f_X12_after_14 N R σ4 x0 x2 x3)) else (f_X12_after_14 N R σ1 x0 x2 x3))
set_option maxHeartbeats 4000000 in
set_option maxRecDepth 100000 in
theorem w_X12_after_14 {l : Launch} {g : GL} {p : Program} {e : Jvm.Env} {s : State} {m : MethodId} {args : Array Value} {below : List Frame} {meth : Method} {c : Code} {R : Nat → Nat → Nat} {L : Nat → Nat → Int64} {r : (Int32 × SI)} {N : Nat} (C : Cx l g p s m meth c cX12_after 4 RX12) (hr : meth.sig.returnType = (some .int)) (hSh : ShR R) : ∀ (σ : SI) (x0 : Nat) (x2 : Int32) (x3 : Int32), f_X12_after_14 N R σ x0 x2 x3 = some r → Ok 194 x0 12 → ∀ (H : Heap) (locs : List Loc) (ls : Array Slot), S2 g s σ R L H locs → lv_has ls 4 [(0, .ref (gb g + x0)), (2, .int x2), (3, .int x3)] → W p l e (rmd 6 0 0) s m args below meth c H locs 0 0 (MQ below (Qg g 194 (PI R L r)) args s 0 0 (gA g)) (F0 m 14 ls []) := by
  have hx := C.1
  have hb := C.2.1
  intro σ x0 x2 x3 h hx0 H locs ls S hl
  rw [f_X12_after_14] at h
  refine lv_aload_n hx hb dX12_after_14 rfl (lv_at hl 0 rfl) ?_
  refine lv_iload_n hx hb dX12_after_15 rfl (lv_at hl 1 rfl) ?_
  refine lv_iload_n hx hb dX12_after_16 rfl (lv_at hl 2 rfl) ?_
  obtain ⟨a3, σ3, hc3, h⟩ := bd_el h
  refine x_callVI C S KX12 hx0 (ok_X12_number (L := L) hc3 hSh hx0) ⟨cd_X12_number, ni_RX12, ml_RX12_79, in_X12_number, sl_X12_number⟩ ⟨by decide, by decide⟩ rfl (rm_ok (by decide) (by decide)) hl.1 rfl (Nat.le_of_ble_eq_true rfl) ⟨by decide, by decide⟩ dX12_after_17 (fun H locs S => ?_)
  exact x_iret C S hr h dX12_after_20
set_option maxHeartbeats 4000000 in
set_option maxRecDepth 100000 in
theorem ok_X12_after {l : Launch} {g : GL} {R : Nat → Nat → Nat} {L : Nat → Nat → Int64} {N : Nat} {σ : SI} {x0 : Nat} {x1 : Nat} {x2 : Int32} {x3 : Int32} {r : (Int32 × SI)} (h : f_X12_after N R σ x0 x1 x2 x3 = some r) (hSh : ShR R) (hx0 : Ok 194 x0 12) (hx1 : x1 < 13) : Ct l g 6 yX12_after cX12_after 4 (some .int) 194 194 0 0 [.ref (gb g + x0), .ref (gS g x1), .int x2, .int x3] (mkS σ R L) (PI R L r) := by
  refine Met.ofW (cc := cX12_after) (maxL := 4) (ret := (some .int)) (by decide) rfl ?_
  intro p e s m args below meth c s₁ B hml hv
  obtain ⟨rfl, hE, hLo, hWd⟩ := hv
  have hr : meth.sig.returnType = (some .int) := B.returns
  have C : Cx l g p s m meth c cX12_after 4 RX12 := ⟨B.exec, B.bytes, hml, findClass_of_methodNamed B.named, hE, hLo, B.notSynchronized⟩
  have S : S2 g s σ R L s.heap [] := ⟨hWd, va_S.rf⟩
  have hx := C.1
  have hb := C.2.1
  have hl := lv_entry ([.ref (gb g + x0), .ref (gS g x1), .int x2, .int x3]) (n := 4) (Nat.le_of_ble_eq_true rfl)
  rw [lg_entry_eq]
  generalize (lg_sl ([.ref (gb g + x0), .ref (gS g x1), .int x2, .int x3]) ++ List.replicate (4 - (lg_sl ([.ref (gb g + x0), .ref (gS g x1), .int x2, .int x3])).length) Slot.unset).toArray = ls at hl ⊢
  have hl : lv_has ls 4 [(0, .ref (gb g + x0)), (1, .ref (gS g x1)), (2, .int x2), (3, .int x3)] := hl
  generalize hH : s.heap = H at S ⊢
  generalize hlc : ([] : List Loc) = locs at S ⊢
  rw [f_X12_after] at h
  refine lv_aload_n hx hb dX12_after_0 rfl (lv_at hl 0 rfl) ?_
  refine lv_aload_n hx hb dX12_after_1 rfl (lv_at hl 1 rfl) ?_
  obtain ⟨a1, σ1, hc1, h⟩ := bd_el h
  refine x_callVI C S KX12 hx0 (ok_X12_takesWord (L := L) hc1 hSh hx0 hx1) ⟨cd_X12_takesWord, ni_RX12, ml_RX12_75, in_X12_takesWord, sl_X12_takesWord⟩ ⟨by decide, by decide⟩ rfl (rm_ok (by decide) (by decide)) hl.1 rfl (Nat.le_of_ble_eq_true rfl) ⟨by decide, by decide⟩ dX12_after_2 (fun H locs S => ?_)
  refine lv_if_ne (tgt := 14) hx hb dX12_after_5 (by decide) (fun c2 => ?_) (fun c2 => ?_)
  · have h := it_n c2 h
    exact w_X12_after_14 C hr hSh σ1 x0 x2 x3 h hx0 H locs ls S (lv_sub hl [0, 2, 3] rfl)
  · have h := it_p c2 h
    refine lv_aload_n hx hb dX12_after_8 rfl (lv_at hl 0 rfl) ?_
    refine lv_iconst (v := (0 : Int32)) hx hb dX12_after_9 (by decide) ?_
    refine lv_iconst (v := (1 : Int32)) hx hb dX12_after_10 (by decide) ?_
    obtain ⟨a4, σ4, hc4, h⟩ := bd_el h
    refine x_callVV C S KX12 hx0 (ok_X12_must (L := L) hc4 hSh hx0) ⟨cd_X12_must, ni_RX12, ml_RX12_67, in_X12_must, sl_X12_must⟩ ⟨by decide, by decide⟩ rfl (rm_ok (by decide) (by decide)) hl.1 rfl (Nat.le_of_ble_eq_true rfl) ⟨by decide, by decide⟩ dX12_after_11 (fun H locs S => ?_)
    exact w_X12_after_14 C hr hSh σ4 x0 x2 x3 h hx0 H locs ls S (lv_sub hl [0, 2, 3] rfl)
theorem dX12_nearLine_0 : decode cX12_nearLine 0 = .ok (.aload_n 0, 1) := by decide +kernel
theorem dX12_nearLine_1 : decode cX12_nearLine 1 = .ok (.getfield 88, 3) := by decide +kernel
theorem dX12_nearLine_4 : decode cX12_nearLine 4 = .ok (.iconst 0, 1) := by decide +kernel
theorem dX12_nearLine_5 : decode cX12_nearLine 5 = .ok (.iaload, 1) := by decide +kernel
theorem dX12_nearLine_6 : decode cX12_nearLine 6 = .ok (.istore_n 1, 1) := by decide +kernel
theorem dX12_nearLine_7 : decode cX12_nearLine 7 = .ok (.bipush 81, 2) := by decide +kernel
theorem dX12_nearLine_9 : decode cX12_nearLine 9 = .ok (.bipush 18, 2) := by decide +kernel
theorem dX12_nearLine_11 : decode cX12_nearLine 11 = .ok (.iload_n 1, 1) := by decide +kernel
theorem dX12_nearLine_12 : decode cX12_nearLine 12 = .ok (.imul, 1) := by decide +kernel
theorem dX12_nearLine_13 : decode cX12_nearLine 13 = .ok (.iadd, 1) := by decide +kernel
theorem dX12_nearLine_14 : decode cX12_nearLine 14 = .ok (.istore_n 2, 1) := by decide +kernel
theorem dX12_nearLine_15 : decode cX12_nearLine 15 = .ok (.aload_n 0, 1) := by decide +kernel
theorem dX12_nearLine_16 : decode cX12_nearLine 16 = .ok (.bipush 81, 2) := by decide +kernel
theorem dX12_nearLine_18 : decode cX12_nearLine 18 = .ok (.bipush 18, 2) := by decide +kernel
theorem dX12_nearLine_20 : decode cX12_nearLine 20 = .ok (.iload_n 1, 1) := by decide +kernel
theorem dX12_nearLine_21 : decode cX12_nearLine 21 = .ok (.invokevirtual 131, 3) := by decide +kernel
theorem dX12_nearLine_24 : decode cX12_nearLine 24 = .ok (.aload_n 0, 1) := by decide +kernel
theorem dX12_nearLine_25 : decode cX12_nearLine 25 = .ok (.getfield 88, 3) := by decide +kernel
theorem dX12_nearLine_28 : decode cX12_nearLine 28 = .ok (.iload_n 2, 1) := by decide +kernel
theorem dX12_nearLine_29 : decode cX12_nearLine 29 = .ok (.bipush 6, 2) := by decide +kernel
theorem dX12_nearLine_31 : decode cX12_nearLine 31 = .ok (.iadd, 1) := by decide +kernel
theorem dX12_nearLine_32 : decode cX12_nearLine 32 = .ok (.aload_n 0, 1) := by decide +kernel
theorem dX12_nearLine_33 : decode cX12_nearLine 33 = .ok (.iconst 0, 1) := by decide +kernel
theorem dX12_nearLine_34 : decode cX12_nearLine 34 = .ok (.sipush 999, 3) := by decide +kernel
theorem dX12_nearLine_37 : decode cX12_nearLine 37 = .ok (.invokevirtual 79, 3) := by decide +kernel
theorem dX12_nearLine_40 : decode cX12_nearLine 40 = .ok (.iastore, 1) := by decide +kernel
theorem dX12_nearLine_41 : decode cX12_nearLine 41 = .ok (.aload_n 0, 1) := by decide +kernel
theorem dX12_nearLine_42 : decode cX12_nearLine 42 = .ok (.getfield 88, 3) := by decide +kernel
theorem dX12_nearLine_45 : decode cX12_nearLine 45 = .ok (.iload_n 2, 1) := by decide +kernel
theorem dX12_nearLine_46 : decode cX12_nearLine 46 = .ok (.bipush 7, 2) := by decide +kernel
theorem dX12_nearLine_48 : decode cX12_nearLine 48 = .ok (.iadd, 1) := by decide +kernel
theorem dX12_nearLine_49 : decode cX12_nearLine 49 = .ok (.aload_n 0, 1) := by decide +kernel
theorem dX12_nearLine_50 : decode cX12_nearLine 50 = .ok (.iconst 0, 1) := by decide +kernel
theorem dX12_nearLine_51 : decode cX12_nearLine 51 = .ok (.sipush 999, 3) := by decide +kernel
theorem dX12_nearLine_54 : decode cX12_nearLine 54 = .ok (.invokevirtual 79, 3) := by decide +kernel
theorem dX12_nearLine_57 : decode cX12_nearLine 57 = .ok (.iastore, 1) := by decide +kernel
theorem dX12_nearLine_58 : decode cX12_nearLine 58 = .ok (.aload_n 0, 1) := by decide +kernel
theorem dX12_nearLine_59 : decode cX12_nearLine 59 = .ok (.getfield 88, 3) := by decide +kernel
theorem dX12_nearLine_62 : decode cX12_nearLine 62 = .ok (.iload_n 2, 1) := by decide +kernel
theorem dX12_nearLine_63 : decode cX12_nearLine 63 = .ok (.bipush 8, 2) := by decide +kernel
theorem dX12_nearLine_65 : decode cX12_nearLine 65 = .ok (.iadd, 1) := by decide +kernel
theorem dX12_nearLine_66 : decode cX12_nearLine 66 = .ok (.aload_n 0, 1) := by decide +kernel
theorem dX12_nearLine_67 : decode cX12_nearLine 67 = .ok (.iconst 0, 1) := by decide +kernel
theorem dX12_nearLine_68 : decode cX12_nearLine 68 = .ok (.ldc 135, 2) := by decide +kernel
theorem dX12_nearLine_70 : decode cX12_nearLine 70 = .ok (.invokevirtual 79, 3) := by decide +kernel
theorem dX12_nearLine_73 : decode cX12_nearLine 73 = .ok (.iastore, 1) := by decide +kernel
theorem dX12_nearLine_74 : decode cX12_nearLine 74 = .ok (.aload_n 0, 1) := by decide +kernel
theorem dX12_nearLine_75 : decode cX12_nearLine 75 = .ok (.invokevirtual 64, 3) := by decide +kernel
theorem dX12_nearLine_78 : decode cX12_nearLine 78 = .ok (.ifCond .eq 105, 3) := by decide +kernel
theorem dX12_nearLine_81 : decode cX12_nearLine 81 = .ok (.aload_n 0, 1) := by decide +kernel
theorem dX12_nearLine_82 : decode cX12_nearLine 82 = .ok (.getfield 88, 3) := by decide +kernel
theorem dX12_nearLine_85 : decode cX12_nearLine 85 = .ok (.iload_n 2, 1) := by decide +kernel
theorem dX12_nearLine_86 : decode cX12_nearLine 86 = .ok (.bipush 9, 2) := by decide +kernel
theorem dX12_nearLine_88 : decode cX12_nearLine 88 = .ok (.iadd, 1) := by decide +kernel
theorem dX12_nearLine_89 : decode cX12_nearLine 89 = .ok (.iaload, 1) := by decide +kernel
theorem dX12_nearLine_90 : decode cX12_nearLine 90 = .ok (.istore_n 3, 1) := by decide +kernel
theorem dX12_nearLine_91 : decode cX12_nearLine 91 = .ok (.aload_n 0, 1) := by decide +kernel
theorem dX12_nearLine_92 : decode cX12_nearLine 92 = .ok (.iload_n 3, 1) := by decide +kernel
theorem dX12_nearLine_93 : decode cX12_nearLine 93 = .ok (.iconst 4, 1) := by decide +kernel
theorem dX12_nearLine_94 : decode cX12_nearLine 94 = .ok (.if_icmp .ge 7, 3) := by decide +kernel
theorem dX12_nearLine_97 : decode cX12_nearLine 97 = .ok (.iconst 1, 1) := by decide +kernel
theorem dX12_nearLine_98 : decode cX12_nearLine 98 = .ok (.goto 4, 3) := by decide +kernel
theorem dX12_nearLine_101 : decode cX12_nearLine 101 = .ok (.iconst 0, 1) := by decide +kernel
theorem dX12_nearLine_102 : decode cX12_nearLine 102 = .ok (.iconst 4, 1) := by decide +kernel
theorem dX12_nearLine_103 : decode cX12_nearLine 103 = .ok (.invokevirtual 67, 3) := by decide +kernel
theorem dX12_nearLine_106 : decode cX12_nearLine 106 = .ok (.aload_n 0, 1) := by decide +kernel
theorem dX12_nearLine_107 : decode cX12_nearLine 107 = .ok (.invokevirtual 40, 3) := by decide +kernel
theorem dX12_nearLine_110 : decode cX12_nearLine 110 = .ok (.ifCond .eq 4, 3) := by decide +kernel
theorem dX12_nearLine_113 : decode cX12_nearLine 113 = .ok (.return_, 1) := by decide +kernel
theorem dX12_nearLine_114 : decode cX12_nearLine 114 = .ok (.aload_n 0, 1) := by decide +kernel
theorem dX12_nearLine_115 : decode cX12_nearLine 115 = .ok (.iconst 0, 1) := by decide +kernel
theorem dX12_nearLine_116 : decode cX12_nearLine 116 = .ok (.sipush 1439, 3) := by decide +kernel
theorem dX12_nearLine_119 : decode cX12_nearLine 119 = .ok (.invokevirtual 79, 3) := by decide +kernel
theorem dX12_nearLine_122 : decode cX12_nearLine 122 = .ok (.istore 4, 2) := by decide +kernel
theorem dX12_nearLine_124 : decode cX12_nearLine 124 = .ok (.aload_n 0, 1) := by decide +kernel
theorem dX12_nearLine_125 : decode cX12_nearLine 125 = .ok (.getfield 88, 3) := by decide +kernel
theorem dX12_nearLine_128 : decode cX12_nearLine 128 = .ok (.iload_n 2, 1) := by decide +kernel
theorem dX12_nearLine_129 : decode cX12_nearLine 129 = .ok (.bipush 10, 2) := by decide +kernel
theorem dX12_nearLine_131 : decode cX12_nearLine 131 = .ok (.iadd, 1) := by decide +kernel
theorem dX12_nearLine_132 : decode cX12_nearLine 132 = .ok (.iconst 2, 1) := by decide +kernel
theorem dX12_nearLine_133 : decode cX12_nearLine 133 = .ok (.iload_n 3, 1) := by decide +kernel
theorem dX12_nearLine_134 : decode cX12_nearLine 134 = .ok (.imul, 1) := by decide +kernel
theorem dX12_nearLine_135 : decode cX12_nearLine 135 = .ok (.iadd, 1) := by decide +kernel
theorem dX12_nearLine_136 : decode cX12_nearLine 136 = .ok (.iload 4, 2) := by decide +kernel
theorem dX12_nearLine_138 : decode cX12_nearLine 138 = .ok (.iastore, 1) := by decide +kernel
theorem dX12_nearLine_139 : decode cX12_nearLine 139 = .ok (.aload_n 0, 1) := by decide +kernel
theorem dX12_nearLine_140 : decode cX12_nearLine 140 = .ok (.getfield 88, 3) := by decide +kernel
theorem dX12_nearLine_143 : decode cX12_nearLine 143 = .ok (.iload_n 2, 1) := by decide +kernel
theorem dX12_nearLine_144 : decode cX12_nearLine 144 = .ok (.bipush 10, 2) := by decide +kernel
theorem dX12_nearLine_146 : decode cX12_nearLine 146 = .ok (.iadd, 1) := by decide +kernel
theorem dX12_nearLine_147 : decode cX12_nearLine 147 = .ok (.iconst 2, 1) := by decide +kernel
theorem dX12_nearLine_148 : decode cX12_nearLine 148 = .ok (.iload_n 3, 1) := by decide +kernel
theorem dX12_nearLine_149 : decode cX12_nearLine 149 = .ok (.imul, 1) := by decide +kernel
theorem dX12_nearLine_150 : decode cX12_nearLine 150 = .ok (.iadd, 1) := by decide +kernel
theorem dX12_nearLine_151 : decode cX12_nearLine 151 = .ok (.iconst 1, 1) := by decide +kernel
theorem dX12_nearLine_152 : decode cX12_nearLine 152 = .ok (.iadd, 1) := by decide +kernel
theorem dX12_nearLine_153 : decode cX12_nearLine 153 = .ok (.aload_n 0, 1) := by decide +kernel
theorem dX12_nearLine_154 : decode cX12_nearLine 154 = .ok (.ldc 136, 2) := by decide +kernel
theorem dX12_nearLine_156 : decode cX12_nearLine 156 = .ok (.iload 4, 2) := by decide +kernel
theorem dX12_nearLine_158 : decode cX12_nearLine 158 = .ok (.iconst 1, 1) := by decide +kernel
theorem dX12_nearLine_159 : decode cX12_nearLine 159 = .ok (.iadd, 1) := by decide +kernel
theorem dX12_nearLine_160 : decode cX12_nearLine 160 = .ok (.sipush 1440, 3) := by decide +kernel
theorem dX12_nearLine_163 : decode cX12_nearLine 163 = .ok (.invokevirtual 138, 3) := by decide +kernel
theorem dX12_nearLine_166 : decode cX12_nearLine 166 = .ok (.iastore, 1) := by decide +kernel
theorem dX12_nearLine_167 : decode cX12_nearLine 167 = .ok (.aload_n 0, 1) := by decide +kernel
theorem dX12_nearLine_168 : decode cX12_nearLine 168 = .ok (.getfield 88, 3) := by decide +kernel
theorem dX12_nearLine_171 : decode cX12_nearLine 171 = .ok (.iload_n 2, 1) := by decide +kernel
theorem dX12_nearLine_172 : decode cX12_nearLine 172 = .ok (.bipush 9, 2) := by decide +kernel
theorem dX12_nearLine_174 : decode cX12_nearLine 174 = .ok (.iadd, 1) := by decide +kernel
theorem dX12_nearLine_175 : decode cX12_nearLine 175 = .ok (.dup2, 1) := by decide +kernel
theorem dX12_nearLine_176 : decode cX12_nearLine 176 = .ok (.iaload, 1) := by decide +kernel
theorem dX12_nearLine_177 : decode cX12_nearLine 177 = .ok (.iconst 1, 1) := by decide +kernel
theorem dX12_nearLine_178 : decode cX12_nearLine 178 = .ok (.iadd, 1) := by decide +kernel
theorem dX12_nearLine_179 : decode cX12_nearLine 179 = .ok (.iastore, 1) := by decide +kernel
theorem dX12_nearLine_180 : decode cX12_nearLine 180 = .ok (.goto (-106), 3) := by decide +kernel
theorem dX12_nearLine_183 : decode cX12_nearLine 183 = .ok (.aload_n 0, 1) := by decide +kernel
theorem dX12_nearLine_184 : decode cX12_nearLine 184 = .ok (.getfield 88, 3) := by decide +kernel
theorem dX12_nearLine_187 : decode cX12_nearLine 187 = .ok (.iconst 0, 1) := by decide +kernel
theorem dX12_nearLine_188 : decode cX12_nearLine 188 = .ok (.dup2, 1) := by decide +kernel
theorem dX12_nearLine_189 : decode cX12_nearLine 189 = .ok (.iaload, 1) := by decide +kernel
theorem dX12_nearLine_190 : decode cX12_nearLine 190 = .ok (.iconst 1, 1) := by decide +kernel
theorem dX12_nearLine_191 : decode cX12_nearLine 191 = .ok (.iadd, 1) := by decide +kernel
theorem dX12_nearLine_192 : decode cX12_nearLine 192 = .ok (.iastore, 1) := by decide +kernel
theorem dX12_nearLine_193 : decode cX12_nearLine 193 = .ok (.return_, 1) := by decide +kernel
def f_X12_nearLine_74 (N : Nat) (R : Nat → Nat → Nat) : Nat → SI → Nat → Int32 → Option (Unit × SI)
  | 0, _, _, _ => none
  | n + 1, σ, x0, x2 => bd (f_X12_isFigure N R σ x0) (fun a16 σ16 => if a16 = 0 then (ck (0 : Int32) 417 (ck (0 : Int32) 417 (sq (up σ16 (R x0 11) (0 : Int32).toNatClampNeg ((σ16 (R x0 11) (0 : Int32).toNatClampNeg) + (1 : Int32))) (fun σ21 => some ((), σ21))))) else (ck (x2 + (9 : Int32)) 417 (if (4 : Int32) ≤ (σ16 (R x0 11) (x2 + (9 : Int32)).toNatClampNeg) then (bd (f_X12_must N R σ16 x0 (0 : Int32) (4 : Int32)) (fun _ σ25 => bd (f_X12_hasFailed N R σ25 x0) (fun a26 σ26 => if a26 = 0 then (bd (f_X12_number N R σ26 x0 (0 : Int32) (1439 : Int32)) (fun a28 σ28 => ck ((x2 + (10 : Int32)) + ((2 : Int32) * (σ16 (R x0 11) (x2 + (9 : Int32)).toNatClampNeg))) 417 (sq (up σ28 (R x0 11) ((x2 + (10 : Int32)) + ((2 : Int32) * (σ16 (R x0 11) (x2 + (9 : Int32)).toNatClampNeg))).toNatClampNeg a28) (fun σ31 => bd (f_X12_after N R σ31 x0 1 (a28 + (1 : Int32)) (1440 : Int32)) (fun a33 σ33 => ck (((x2 + (10 : Int32)) + ((2 : Int32) * (σ16 (R x0 11) (x2 + (9 : Int32)).toNatClampNeg))) + (1 : Int32)) 417 (sq (up σ33 (R x0 11) (((x2 + (10 : Int32)) + ((2 : Int32) * (σ16 (R x0 11) (x2 + (9 : Int32)).toNatClampNeg))) + (1 : Int32)).toNatClampNeg a33) (fun σ35 => ck (x2 + (9 : Int32)) 417 (ck (x2 + (9 : Int32)) 417 (sq (up σ35 (R x0 11) (x2 + (9 : Int32)).toNatClampNeg ((σ35 (R x0 11) (x2 + (9 : Int32)).toNatClampNeg) + (1 : Int32))) (fun σ39 => f_X12_nearLine_74 N R n σ39 x0 x2)))))))))) else (some ((), σ26))))) else (bd (f_X12_must N R σ16 x0 (1 : Int32) (4 : Int32)) (fun _ σ40 => bd (f_X12_hasFailed N R σ40 x0) (fun a41 σ41 => if a41 = 0 then (bd (f_X12_number N R σ41 x0 (0 : Int32) (1439 : Int32)) (fun a43 σ43 => ck ((x2 + (10 : Int32)) + ((2 : Int32) * (σ16 (R x0 11) (x2 + (9 : Int32)).toNatClampNeg))) 417 (sq (up σ43 (R x0 11) ((x2 + (10 : Int32)) + ((2 : Int32) * (σ16 (R x0 11) (x2 + (9 : Int32)).toNatClampNeg))).toNatClampNeg a43) (fun σ46 => bd (f_X12_after N R σ46 x0 1 (a43 + (1 : Int32)) (1440 : Int32)) (fun a48 σ48 => ck (((x2 + (10 : Int32)) + ((2 : Int32) * (σ16 (R x0 11) (x2 + (9 : Int32)).toNatClampNeg))) + (1 : Int32)) 417 (sq (up σ48 (R x0 11) (((x2 + (10 : Int32)) + ((2 : Int32) * (σ16 (R x0 11) (x2 + (9 : Int32)).toNatClampNeg))) + (1 : Int32)).toNatClampNeg a48) (fun σ50 => ck (x2 + (9 : Int32)) 417 (ck (x2 + (9 : Int32)) 417 (sq (up σ50 (R x0 11) (x2 + (9 : Int32)).toNatClampNeg ((σ50 (R x0 11) (x2 + (9 : Int32)).toNatClampNeg) + (1 : Int32))) (fun σ54 => f_X12_nearLine_74 N R n σ54 x0 x2)))))))))) else (some ((), σ41))))))))
def f_X12_nearLine (N : Nat) (R : Nat → Nat → Nat) (σ : SI) (x0 : Nat) : Option (Unit × SI) := ck (0 : Int32) 417 (bd (f_X12_name N R σ x0 (81 : Int32) (18 : Int32) (σ (R x0 11) (0 : Int32).toNatClampNeg)) (fun _ σ3 => bd (f_X12_number N R σ3 x0 (0 : Int32) (999 : Int32)) (fun a5 σ5 => ck (((81 : Int32) + ((18 : Int32) * (σ (R x0 11) (0 : Int32).toNatClampNeg))) + (6 : Int32)) 417 (sq (up σ5 (R x0 11) (((81 : Int32) + ((18 : Int32) * (σ (R x0 11) (0 : Int32).toNatClampNeg))) + (6 : Int32)).toNatClampNeg a5) (fun σ7 => bd (f_X12_number N R σ7 x0 (0 : Int32) (999 : Int32)) (fun a9 σ9 => ck (((81 : Int32) + ((18 : Int32) * (σ (R x0 11) (0 : Int32).toNatClampNeg))) + (7 : Int32)) 417 (sq (up σ9 (R x0 11) (((81 : Int32) + ((18 : Int32) * (σ (R x0 11) (0 : Int32).toNatClampNeg))) + (7 : Int32)).toNatClampNeg a9) (fun σ11 => bd (f_X12_number N R σ11 x0 (0 : Int32) (99999 : Int32)) (fun a13 σ13 => ck (((81 : Int32) + ((18 : Int32) * (σ (R x0 11) (0 : Int32).toNatClampNeg))) + (8 : Int32)) 417 (sq (up σ13 (R x0 11) (((81 : Int32) + ((18 : Int32) * (σ (R x0 11) (0 : Int32).toNatClampNeg))) + (8 : Int32)).toNatClampNeg a13) (fun σ15 => f_X12_nearLine_74 N R N σ15 x0 ((81 : Int32) + ((18 : Int32) * (σ (R x0 11) (0 : Int32).toNatClampNeg))))))))))))))
set_option maxHeartbeats 4000000 in
set_option maxRecDepth 100000 in
theorem w_X12_nearLine_74 {l : Launch} {g : GL} {p : Program} {e : Jvm.Env} {s : State} {m : MethodId} {args : Array Value} {below : List Frame} {meth : Method} {c : Code} {R : Nat → Nat → Nat} {L : Nat → Nat → Int64} {r : (Unit × SI)} {N : Nat} (C : Cx l g p s m meth c cX12_nearLine 5 RX12) (hr : meth.sig.returnType = none) (hSh : ShR R) : ∀ (n : Nat) (σ : SI) (x0 : Nat) (x2 : Int32), f_X12_nearLine_74 N R n σ x0 x2 = some r → Ok 194 x0 12 → ∀ (H : Heap) (locs : List Loc) (ls : Array Slot), S2 g s σ R L H locs → lv_has ls 5 [(0, .ref (gb g + x0)), (2, .int x2)] → W p l e (rmd 7 0 0) s m args below meth c H locs 0 0 (MQ below (Qg g 194 (PV R L r)) args s 0 0 (gA g)) (F0 m 74 ls []) := by
  have hx := C.1
  have hb := C.2.1
  intro n
  induction n with
  | zero =>
    intro σ x0 x2 h
    cases (show (none : Option (Unit × SI)) = some r from h)
  | succ n ih =>
    intro σ x0 x2 h hx0 H locs ls S hl
    rw [f_X12_nearLine_74] at h
    refine lv_aload_n hx hb dX12_nearLine_74 rfl (lv_at hl 0 rfl) ?_
    obtain ⟨a16, σ16, hc16, h⟩ := bd_el h
    refine x_callVI C S KX12 hx0 (ok_X12_isFigure (L := L) hc16 hSh hx0) ⟨cd_X12_isFigure, ni_RX12, ml_RX12_64, in_X12_isFigure, sl_X12_isFigure⟩ ⟨by decide, by decide⟩ rfl (rm_ok (by decide) (by decide)) hl.1 rfl (Nat.le_of_ble_eq_true rfl) ⟨by decide, by decide⟩ dX12_nearLine_75 (fun H locs S => ?_)
    refine lv_if_eq (tgt := 183) hx hb dX12_nearLine_78 (by decide) (fun c17 => ?_) (fun c17 => ?_)
    · have h := it_p c17 h
      refine lv_aload_n hx hb dX12_nearLine_183 rfl (lv_at hl 0 rfl) ?_
      have hR18 : Ok 194 (R x0 11) 10417 := hSh x0 12 11 10417 hx0.1 rfl
      refine x_getR C S KX12 hx0 11 (by decide) rfl rfl fl_RX12_88 hR18 dX12_nearLine_184 ?_
      refine lv_iconst (v := (0 : Int32)) hx hb dX12_nearLine_187 (by decide) ?_
      refine lv_dup2_11 hx hb dX12_nearLine_188 rfl rfl ?_
      obtain ⟨hi19, h⟩ := ck_el h
      refine x_iald (len := 417) C S (by decide) hR18 hi19 dX12_nearLine_189 ?_
      refine lv_iconst (v := (1 : Int32)) hx hb dX12_nearLine_190 (by decide) ?_
      refine lv_iadd hx hb dX12_nearLine_191 ?_
      obtain ⟨hi20, h⟩ := ck_el h
      obtain ⟨σ21, hs21, h⟩ := sq_el h
      refine x_iast (len := 417) C S (by decide) hR18 hi20 dX12_nearLine_192 hs21 (fun H locs S => ?_)
      exact x_vret C S hr h dX12_nearLine_193
    · have h := it_n c17 h
      refine lv_aload_n hx hb dX12_nearLine_81 rfl (lv_at hl 0 rfl) ?_
      have hR22 : Ok 194 (R x0 11) 10417 := hSh x0 12 11 10417 hx0.1 rfl
      refine x_getR C S KX12 hx0 11 (by decide) rfl rfl fl_RX12_88 hR22 dX12_nearLine_82 ?_
      refine lv_iload_n hx hb dX12_nearLine_85 rfl (lv_at hl 1 rfl) ?_
      refine lv_bipush (v := (9 : Int32)) hx hb dX12_nearLine_86 (by decide) ?_
      refine lv_iadd hx hb dX12_nearLine_88 ?_
      obtain ⟨hi23, h⟩ := ck_el h
      refine x_iald (len := 417) C S (by decide) hR22 hi23 dX12_nearLine_89 ?_
      refine lv_istore_n (lv' := [(3, .int (σ16 (R x0 11) (x2 + (9 : Int32)).toNatClampNeg)), (0, .ref (gb g + x0)), (2, .int x2)]) hx hb dX12_nearLine_90 rfl hl (by decide) rfl (fun ls hl => ?_)
      refine lv_aload_n hx hb dX12_nearLine_91 rfl (lv_at hl 1 rfl) ?_
      refine lv_iload_n hx hb dX12_nearLine_92 rfl (lv_at hl 0 rfl) ?_
      refine lv_iconst (v := (4 : Int32)) hx hb dX12_nearLine_93 (by decide) ?_
      refine lv_icmp_ge (tgt := 101) hx hb dX12_nearLine_94 (by decide) (fun c24 => ?_) (fun c24 => ?_)
      · have h := it_p c24 h
        refine lv_iconst (v := (0 : Int32)) hx hb dX12_nearLine_101 (by decide) ?_
        refine lv_iconst (v := (4 : Int32)) hx hb dX12_nearLine_102 (by decide) ?_
        obtain ⟨a25, σ25, hc25, h⟩ := bd_el h
        refine x_callVV C S KX12 hx0 (ok_X12_must (L := L) hc25 hSh hx0) ⟨cd_X12_must, ni_RX12, ml_RX12_67, in_X12_must, sl_X12_must⟩ ⟨by decide, by decide⟩ rfl (rm_ok (by decide) (by decide)) hl.1 rfl (Nat.le_of_ble_eq_true rfl) ⟨by decide, by decide⟩ dX12_nearLine_103 (fun H locs S => ?_)
        refine lv_aload_n hx hb dX12_nearLine_106 rfl (lv_at hl 1 rfl) ?_
        obtain ⟨a26, σ26, hc26, h⟩ := bd_el h
        refine x_callVI C S KX12 hx0 (ok_X12_hasFailed (L := L) hc26 hSh hx0) ⟨cd_X12_hasFailed, ni_RX12, ml_RX12_40, in_X12_hasFailed, sl_X12_hasFailed⟩ ⟨by decide, by decide⟩ rfl (rm_ok (by decide) (by decide)) hl.1 rfl (Nat.le_of_ble_eq_true rfl) ⟨by decide, by decide⟩ dX12_nearLine_107 (fun H locs S => ?_)
        refine lv_if_eq (tgt := 114) hx hb dX12_nearLine_110 (by decide) (fun c27 => ?_) (fun c27 => ?_)
        · have h := it_p c27 h
          refine lv_aload_n hx hb dX12_nearLine_114 rfl (lv_at hl 1 rfl) ?_
          refine lv_iconst (v := (0 : Int32)) hx hb dX12_nearLine_115 (by decide) ?_
          refine lv_sipush (v := (1439 : Int32)) hx hb dX12_nearLine_116 (by decide) ?_
          obtain ⟨a28, σ28, hc28, h⟩ := bd_el h
          refine x_callVI C S KX12 hx0 (ok_X12_number (L := L) hc28 hSh hx0) ⟨cd_X12_number, ni_RX12, ml_RX12_79, in_X12_number, sl_X12_number⟩ ⟨by decide, by decide⟩ rfl (rm_ok (by decide) (by decide)) hl.1 rfl (Nat.le_of_ble_eq_true rfl) ⟨by decide, by decide⟩ dX12_nearLine_119 (fun H locs S => ?_)
          refine lv_istore (lv' := [(4, .int a28), (3, .int (σ16 (R x0 11) (x2 + (9 : Int32)).toNatClampNeg)), (0, .ref (gb g + x0)), (2, .int x2)]) hx hb dX12_nearLine_122 hl (by decide) rfl (fun ls hl => ?_)
          refine lv_aload_n hx hb dX12_nearLine_124 rfl (lv_at hl 2 rfl) ?_
          have hR29 : Ok 194 (R x0 11) 10417 := hSh x0 12 11 10417 hx0.1 rfl
          refine x_getR C S KX12 hx0 11 (by decide) rfl rfl fl_RX12_88 hR29 dX12_nearLine_125 ?_
          refine lv_iload_n hx hb dX12_nearLine_128 rfl (lv_at hl 3 rfl) ?_
          refine lv_bipush (v := (10 : Int32)) hx hb dX12_nearLine_129 (by decide) ?_
          refine lv_iadd hx hb dX12_nearLine_131 ?_
          refine lv_iconst (v := (2 : Int32)) hx hb dX12_nearLine_132 (by decide) ?_
          refine lv_iload_n hx hb dX12_nearLine_133 rfl (lv_at hl 1 rfl) ?_
          refine lv_imul hx hb dX12_nearLine_134 ?_
          refine lv_iadd hx hb dX12_nearLine_135 ?_
          refine lv_iload hx hb dX12_nearLine_136 (lv_at hl 0 rfl) ?_
          obtain ⟨hi30, h⟩ := ck_el h
          obtain ⟨σ31, hs31, h⟩ := sq_el h
          refine x_iast (len := 417) C S (by decide) hR29 hi30 dX12_nearLine_138 hs31 (fun H locs S => ?_)
          refine lv_aload_n hx hb dX12_nearLine_139 rfl (lv_at hl 2 rfl) ?_
          have hR32 : Ok 194 (R x0 11) 10417 := hSh x0 12 11 10417 hx0.1 rfl
          refine x_getR C S KX12 hx0 11 (by decide) rfl rfl fl_RX12_88 hR32 dX12_nearLine_140 ?_
          refine lv_iload_n hx hb dX12_nearLine_143 rfl (lv_at hl 3 rfl) ?_
          refine lv_bipush (v := (10 : Int32)) hx hb dX12_nearLine_144 (by decide) ?_
          refine lv_iadd hx hb dX12_nearLine_146 ?_
          refine lv_iconst (v := (2 : Int32)) hx hb dX12_nearLine_147 (by decide) ?_
          refine lv_iload_n hx hb dX12_nearLine_148 rfl (lv_at hl 1 rfl) ?_
          refine lv_imul hx hb dX12_nearLine_149 ?_
          refine lv_iadd hx hb dX12_nearLine_150 ?_
          refine lv_iconst (v := (1 : Int32)) hx hb dX12_nearLine_151 (by decide) ?_
          refine lv_iadd hx hb dX12_nearLine_152 ?_
          refine lv_aload_n hx hb dX12_nearLine_153 rfl (lv_at hl 2 rfl) ?_
          refine x_ldcs C (k := 136) (tx := "to") (ia := 1) (by decide) dX12_nearLine_154 ?_
          refine lv_iload hx hb dX12_nearLine_156 (lv_at hl 0 rfl) ?_
          refine lv_iconst (v := (1 : Int32)) hx hb dX12_nearLine_158 (by decide) ?_
          refine lv_iadd hx hb dX12_nearLine_159 ?_
          refine lv_sipush (v := (1440 : Int32)) hx hb dX12_nearLine_160 (by decide) ?_
          obtain ⟨a33, σ33, hc33, h⟩ := bd_el h
          refine x_callVI C S KX12 hx0 (ok_X12_after (L := L) hc33 hSh hx0 (by decide)) ⟨cd_X12_after, ni_RX12, ml_RX12_138, in_X12_after, sl_X12_after⟩ ⟨by decide, by decide⟩ rfl (rm_ok (by decide) (by decide)) hl.1 rfl (Nat.le_of_ble_eq_true rfl) ⟨by decide, by decide⟩ dX12_nearLine_163 (fun H locs S => ?_)
          obtain ⟨hi34, h⟩ := ck_el h
          obtain ⟨σ35, hs35, h⟩ := sq_el h
          refine x_iast (len := 417) C S (by decide) hR32 hi34 dX12_nearLine_166 hs35 (fun H locs S => ?_)
          refine lv_aload_n hx hb dX12_nearLine_167 rfl (lv_at hl 2 rfl) ?_
          have hR36 : Ok 194 (R x0 11) 10417 := hSh x0 12 11 10417 hx0.1 rfl
          refine x_getR C S KX12 hx0 11 (by decide) rfl rfl fl_RX12_88 hR36 dX12_nearLine_168 ?_
          refine lv_iload_n hx hb dX12_nearLine_171 rfl (lv_at hl 3 rfl) ?_
          refine lv_bipush (v := (9 : Int32)) hx hb dX12_nearLine_172 (by decide) ?_
          refine lv_iadd hx hb dX12_nearLine_174 ?_
          refine lv_dup2_11 hx hb dX12_nearLine_175 rfl rfl ?_
          obtain ⟨hi37, h⟩ := ck_el h
          refine x_iald (len := 417) C S (by decide) hR36 hi37 dX12_nearLine_176 ?_
          refine lv_iconst (v := (1 : Int32)) hx hb dX12_nearLine_177 (by decide) ?_
          refine lv_iadd hx hb dX12_nearLine_178 ?_
          obtain ⟨hi38, h⟩ := ck_el h
          obtain ⟨σ39, hs39, h⟩ := sq_el h
          refine x_iast (len := 417) C S (by decide) hR36 hi38 dX12_nearLine_179 hs39 (fun H locs S => ?_)
          refine lv_goto (tgt := 74) hx hb dX12_nearLine_180 (by decide) ?_
          exact ih σ39 x0 x2 h hx0 H locs ls S (lv_sub hl [2, 3] rfl)
        · have h := it_n c27 h
          exact x_vret C S hr h dX12_nearLine_113
      · have h := it_n c24 h
        refine lv_iconst (v := (1 : Int32)) hx hb dX12_nearLine_97 (by decide) ?_
        refine lv_goto (tgt := 102) hx hb dX12_nearLine_98 (by decide) ?_
        refine lv_iconst (v := (4 : Int32)) hx hb dX12_nearLine_102 (by decide) ?_
        obtain ⟨a40, σ40, hc40, h⟩ := bd_el h
        refine x_callVV C S KX12 hx0 (ok_X12_must (L := L) hc40 hSh hx0) ⟨cd_X12_must, ni_RX12, ml_RX12_67, in_X12_must, sl_X12_must⟩ ⟨by decide, by decide⟩ rfl (rm_ok (by decide) (by decide)) hl.1 rfl (Nat.le_of_ble_eq_true rfl) ⟨by decide, by decide⟩ dX12_nearLine_103 (fun H locs S => ?_)
        refine lv_aload_n hx hb dX12_nearLine_106 rfl (lv_at hl 1 rfl) ?_
        obtain ⟨a41, σ41, hc41, h⟩ := bd_el h
        refine x_callVI C S KX12 hx0 (ok_X12_hasFailed (L := L) hc41 hSh hx0) ⟨cd_X12_hasFailed, ni_RX12, ml_RX12_40, in_X12_hasFailed, sl_X12_hasFailed⟩ ⟨by decide, by decide⟩ rfl (rm_ok (by decide) (by decide)) hl.1 rfl (Nat.le_of_ble_eq_true rfl) ⟨by decide, by decide⟩ dX12_nearLine_107 (fun H locs S => ?_)
        refine lv_if_eq (tgt := 114) hx hb dX12_nearLine_110 (by decide) (fun c42 => ?_) (fun c42 => ?_)
        · have h := it_p c42 h
          refine lv_aload_n hx hb dX12_nearLine_114 rfl (lv_at hl 1 rfl) ?_
          refine lv_iconst (v := (0 : Int32)) hx hb dX12_nearLine_115 (by decide) ?_
          refine lv_sipush (v := (1439 : Int32)) hx hb dX12_nearLine_116 (by decide) ?_
          obtain ⟨a43, σ43, hc43, h⟩ := bd_el h
          refine x_callVI C S KX12 hx0 (ok_X12_number (L := L) hc43 hSh hx0) ⟨cd_X12_number, ni_RX12, ml_RX12_79, in_X12_number, sl_X12_number⟩ ⟨by decide, by decide⟩ rfl (rm_ok (by decide) (by decide)) hl.1 rfl (Nat.le_of_ble_eq_true rfl) ⟨by decide, by decide⟩ dX12_nearLine_119 (fun H locs S => ?_)
          refine lv_istore (lv' := [(4, .int a43), (3, .int (σ16 (R x0 11) (x2 + (9 : Int32)).toNatClampNeg)), (0, .ref (gb g + x0)), (2, .int x2)]) hx hb dX12_nearLine_122 hl (by decide) rfl (fun ls hl => ?_)
          refine lv_aload_n hx hb dX12_nearLine_124 rfl (lv_at hl 2 rfl) ?_
          have hR44 : Ok 194 (R x0 11) 10417 := hSh x0 12 11 10417 hx0.1 rfl
          refine x_getR C S KX12 hx0 11 (by decide) rfl rfl fl_RX12_88 hR44 dX12_nearLine_125 ?_
          refine lv_iload_n hx hb dX12_nearLine_128 rfl (lv_at hl 3 rfl) ?_
          refine lv_bipush (v := (10 : Int32)) hx hb dX12_nearLine_129 (by decide) ?_
          refine lv_iadd hx hb dX12_nearLine_131 ?_
          refine lv_iconst (v := (2 : Int32)) hx hb dX12_nearLine_132 (by decide) ?_
          refine lv_iload_n hx hb dX12_nearLine_133 rfl (lv_at hl 1 rfl) ?_
          refine lv_imul hx hb dX12_nearLine_134 ?_
          refine lv_iadd hx hb dX12_nearLine_135 ?_
          refine lv_iload hx hb dX12_nearLine_136 (lv_at hl 0 rfl) ?_
          obtain ⟨hi45, h⟩ := ck_el h
          obtain ⟨σ46, hs46, h⟩ := sq_el h
          refine x_iast (len := 417) C S (by decide) hR44 hi45 dX12_nearLine_138 hs46 (fun H locs S => ?_)
          refine lv_aload_n hx hb dX12_nearLine_139 rfl (lv_at hl 2 rfl) ?_
          have hR47 : Ok 194 (R x0 11) 10417 := hSh x0 12 11 10417 hx0.1 rfl
          refine x_getR C S KX12 hx0 11 (by decide) rfl rfl fl_RX12_88 hR47 dX12_nearLine_140 ?_
          refine lv_iload_n hx hb dX12_nearLine_143 rfl (lv_at hl 3 rfl) ?_
          refine lv_bipush (v := (10 : Int32)) hx hb dX12_nearLine_144 (by decide) ?_
          refine lv_iadd hx hb dX12_nearLine_146 ?_
          refine lv_iconst (v := (2 : Int32)) hx hb dX12_nearLine_147 (by decide) ?_
          refine lv_iload_n hx hb dX12_nearLine_148 rfl (lv_at hl 1 rfl) ?_
          refine lv_imul hx hb dX12_nearLine_149 ?_
          refine lv_iadd hx hb dX12_nearLine_150 ?_
          refine lv_iconst (v := (1 : Int32)) hx hb dX12_nearLine_151 (by decide) ?_
          refine lv_iadd hx hb dX12_nearLine_152 ?_
          refine lv_aload_n hx hb dX12_nearLine_153 rfl (lv_at hl 2 rfl) ?_
          refine x_ldcs C (k := 136) (tx := "to") (ia := 1) (by decide) dX12_nearLine_154 ?_
          refine lv_iload hx hb dX12_nearLine_156 (lv_at hl 0 rfl) ?_
          refine lv_iconst (v := (1 : Int32)) hx hb dX12_nearLine_158 (by decide) ?_
          refine lv_iadd hx hb dX12_nearLine_159 ?_
          refine lv_sipush (v := (1440 : Int32)) hx hb dX12_nearLine_160 (by decide) ?_
          obtain ⟨a48, σ48, hc48, h⟩ := bd_el h
          refine x_callVI C S KX12 hx0 (ok_X12_after (L := L) hc48 hSh hx0 (by decide)) ⟨cd_X12_after, ni_RX12, ml_RX12_138, in_X12_after, sl_X12_after⟩ ⟨by decide, by decide⟩ rfl (rm_ok (by decide) (by decide)) hl.1 rfl (Nat.le_of_ble_eq_true rfl) ⟨by decide, by decide⟩ dX12_nearLine_163 (fun H locs S => ?_)
          obtain ⟨hi49, h⟩ := ck_el h
          obtain ⟨σ50, hs50, h⟩ := sq_el h
          refine x_iast (len := 417) C S (by decide) hR47 hi49 dX12_nearLine_166 hs50 (fun H locs S => ?_)
          refine lv_aload_n hx hb dX12_nearLine_167 rfl (lv_at hl 2 rfl) ?_
          have hR51 : Ok 194 (R x0 11) 10417 := hSh x0 12 11 10417 hx0.1 rfl
          refine x_getR C S KX12 hx0 11 (by decide) rfl rfl fl_RX12_88 hR51 dX12_nearLine_168 ?_
          refine lv_iload_n hx hb dX12_nearLine_171 rfl (lv_at hl 3 rfl) ?_
          refine lv_bipush (v := (9 : Int32)) hx hb dX12_nearLine_172 (by decide) ?_
          refine lv_iadd hx hb dX12_nearLine_174 ?_
          refine lv_dup2_11 hx hb dX12_nearLine_175 rfl rfl ?_
          obtain ⟨hi52, h⟩ := ck_el h
          refine x_iald (len := 417) C S (by decide) hR51 hi52 dX12_nearLine_176 ?_
          refine lv_iconst (v := (1 : Int32)) hx hb dX12_nearLine_177 (by decide) ?_
          refine lv_iadd hx hb dX12_nearLine_178 ?_
          obtain ⟨hi53, h⟩ := ck_el h
          obtain ⟨σ54, hs54, h⟩ := sq_el h
          refine x_iast (len := 417) C S (by decide) hR51 hi53 dX12_nearLine_179 hs54 (fun H locs S => ?_)
          refine lv_goto (tgt := 74) hx hb dX12_nearLine_180 (by decide) ?_
          exact ih σ54 x0 x2 h hx0 H locs ls S (lv_sub hl [2, 3] rfl)
        · have h := it_n c42 h
          exact x_vret C S hr h dX12_nearLine_113
set_option maxHeartbeats 4000000 in
set_option maxRecDepth 100000 in
theorem ok_X12_nearLine {l : Launch} {g : GL} {R : Nat → Nat → Nat} {L : Nat → Nat → Int64} {N : Nat} {σ : SI} {x0 : Nat} {r : (Unit × SI)} (h : f_X12_nearLine N R σ x0 = some r) (hSh : ShR R) (hx0 : Ok 194 x0 12) : Ct l g 7 yX12_nearLine cX12_nearLine 5 none 194 194 0 0 [.ref (gb g + x0)] (mkS σ R L) (PV R L r) := by
  refine Met.ofW (cc := cX12_nearLine) (maxL := 5) (ret := none) (by decide) rfl ?_
  intro p e s m args below meth c s₁ B hml hv
  obtain ⟨rfl, hE, hLo, hWd⟩ := hv
  have hr : meth.sig.returnType = none := B.returns
  have C : Cx l g p s m meth c cX12_nearLine 5 RX12 := ⟨B.exec, B.bytes, hml, findClass_of_methodNamed B.named, hE, hLo, B.notSynchronized⟩
  have S : S2 g s σ R L s.heap [] := ⟨hWd, va_S.rf⟩
  have hx := C.1
  have hb := C.2.1
  have hl := lv_entry ([.ref (gb g + x0)]) (n := 5) (Nat.le_of_ble_eq_true rfl)
  rw [lg_entry_eq]
  generalize (lg_sl ([.ref (gb g + x0)]) ++ List.replicate (5 - (lg_sl ([.ref (gb g + x0)])).length) Slot.unset).toArray = ls at hl ⊢
  have hl : lv_has ls 5 [(0, .ref (gb g + x0))] := hl
  generalize hH : s.heap = H at S ⊢
  generalize hlc : ([] : List Loc) = locs at S ⊢
  rw [f_X12_nearLine] at h
  refine lv_aload_n hx hb dX12_nearLine_0 rfl (lv_at hl 0 rfl) ?_
  have hR1 : Ok 194 (R x0 11) 10417 := hSh x0 12 11 10417 hx0.1 rfl
  refine x_getR C S KX12 hx0 11 (by decide) rfl rfl fl_RX12_88 hR1 dX12_nearLine_1 ?_
  refine lv_iconst (v := (0 : Int32)) hx hb dX12_nearLine_4 (by decide) ?_
  obtain ⟨hi2, h⟩ := ck_el h
  refine x_iald (len := 417) C S (by decide) hR1 hi2 dX12_nearLine_5 ?_
  refine lv_istore_n (lv' := [(1, .int (σ (R x0 11) (0 : Int32).toNatClampNeg)), (0, .ref (gb g + x0))]) hx hb dX12_nearLine_6 rfl hl (by decide) rfl (fun ls hl => ?_)
  refine lv_bipush (v := (81 : Int32)) hx hb dX12_nearLine_7 (by decide) ?_
  refine lv_bipush (v := (18 : Int32)) hx hb dX12_nearLine_9 (by decide) ?_
  refine lv_iload_n hx hb dX12_nearLine_11 rfl (lv_at hl 0 rfl) ?_
  refine lv_imul hx hb dX12_nearLine_12 ?_
  refine lv_iadd hx hb dX12_nearLine_13 ?_
  refine lv_istore_n (lv' := [(2, .int ((81 : Int32) + ((18 : Int32) * (σ (R x0 11) (0 : Int32).toNatClampNeg)))), (1, .int (σ (R x0 11) (0 : Int32).toNatClampNeg)), (0, .ref (gb g + x0))]) hx hb dX12_nearLine_14 rfl hl (by decide) rfl (fun ls hl => ?_)
  refine lv_aload_n hx hb dX12_nearLine_15 rfl (lv_at hl 2 rfl) ?_
  refine lv_bipush (v := (81 : Int32)) hx hb dX12_nearLine_16 (by decide) ?_
  refine lv_bipush (v := (18 : Int32)) hx hb dX12_nearLine_18 (by decide) ?_
  refine lv_iload_n hx hb dX12_nearLine_20 rfl (lv_at hl 1 rfl) ?_
  obtain ⟨a3, σ3, hc3, h⟩ := bd_el h
  refine x_callVV C S KX12 hx0 (ok_X12_name (L := L) hc3 hSh hx0) ⟨cd_X12_name, ni_RX12, ml_RX12_131, in_X12_name, sl_X12_name⟩ ⟨by decide, by decide⟩ rfl (rm_ok (by decide) (by decide)) hl.1 rfl (Nat.le_of_ble_eq_true rfl) ⟨by decide, by decide⟩ dX12_nearLine_21 (fun H locs S => ?_)
  refine lv_aload_n hx hb dX12_nearLine_24 rfl (lv_at hl 2 rfl) ?_
  have hR4 : Ok 194 (R x0 11) 10417 := hSh x0 12 11 10417 hx0.1 rfl
  refine x_getR C S KX12 hx0 11 (by decide) rfl rfl fl_RX12_88 hR4 dX12_nearLine_25 ?_
  refine lv_iload_n hx hb dX12_nearLine_28 rfl (lv_at hl 0 rfl) ?_
  refine lv_bipush (v := (6 : Int32)) hx hb dX12_nearLine_29 (by decide) ?_
  refine lv_iadd hx hb dX12_nearLine_31 ?_
  refine lv_aload_n hx hb dX12_nearLine_32 rfl (lv_at hl 2 rfl) ?_
  refine lv_iconst (v := (0 : Int32)) hx hb dX12_nearLine_33 (by decide) ?_
  refine lv_sipush (v := (999 : Int32)) hx hb dX12_nearLine_34 (by decide) ?_
  obtain ⟨a5, σ5, hc5, h⟩ := bd_el h
  refine x_callVI C S KX12 hx0 (ok_X12_number (L := L) hc5 hSh hx0) ⟨cd_X12_number, ni_RX12, ml_RX12_79, in_X12_number, sl_X12_number⟩ ⟨by decide, by decide⟩ rfl (rm_ok (by decide) (by decide)) hl.1 rfl (Nat.le_of_ble_eq_true rfl) ⟨by decide, by decide⟩ dX12_nearLine_37 (fun H locs S => ?_)
  obtain ⟨hi6, h⟩ := ck_el h
  obtain ⟨σ7, hs7, h⟩ := sq_el h
  refine x_iast (len := 417) C S (by decide) hR4 hi6 dX12_nearLine_40 hs7 (fun H locs S => ?_)
  refine lv_aload_n hx hb dX12_nearLine_41 rfl (lv_at hl 2 rfl) ?_
  have hR8 : Ok 194 (R x0 11) 10417 := hSh x0 12 11 10417 hx0.1 rfl
  refine x_getR C S KX12 hx0 11 (by decide) rfl rfl fl_RX12_88 hR8 dX12_nearLine_42 ?_
  refine lv_iload_n hx hb dX12_nearLine_45 rfl (lv_at hl 0 rfl) ?_
  refine lv_bipush (v := (7 : Int32)) hx hb dX12_nearLine_46 (by decide) ?_
  refine lv_iadd hx hb dX12_nearLine_48 ?_
  refine lv_aload_n hx hb dX12_nearLine_49 rfl (lv_at hl 2 rfl) ?_
  refine lv_iconst (v := (0 : Int32)) hx hb dX12_nearLine_50 (by decide) ?_
  refine lv_sipush (v := (999 : Int32)) hx hb dX12_nearLine_51 (by decide) ?_
  obtain ⟨a9, σ9, hc9, h⟩ := bd_el h
  refine x_callVI C S KX12 hx0 (ok_X12_number (L := L) hc9 hSh hx0) ⟨cd_X12_number, ni_RX12, ml_RX12_79, in_X12_number, sl_X12_number⟩ ⟨by decide, by decide⟩ rfl (rm_ok (by decide) (by decide)) hl.1 rfl (Nat.le_of_ble_eq_true rfl) ⟨by decide, by decide⟩ dX12_nearLine_54 (fun H locs S => ?_)
  obtain ⟨hi10, h⟩ := ck_el h
  obtain ⟨σ11, hs11, h⟩ := sq_el h
  refine x_iast (len := 417) C S (by decide) hR8 hi10 dX12_nearLine_57 hs11 (fun H locs S => ?_)
  refine lv_aload_n hx hb dX12_nearLine_58 rfl (lv_at hl 2 rfl) ?_
  have hR12 : Ok 194 (R x0 11) 10417 := hSh x0 12 11 10417 hx0.1 rfl
  refine x_getR C S KX12 hx0 11 (by decide) rfl rfl fl_RX12_88 hR12 dX12_nearLine_59 ?_
  refine lv_iload_n hx hb dX12_nearLine_62 rfl (lv_at hl 0 rfl) ?_
  refine lv_bipush (v := (8 : Int32)) hx hb dX12_nearLine_63 (by decide) ?_
  refine lv_iadd hx hb dX12_nearLine_65 ?_
  refine lv_aload_n hx hb dX12_nearLine_66 rfl (lv_at hl 2 rfl) ?_
  refine lv_iconst (v := (0 : Int32)) hx hb dX12_nearLine_67 (by decide) ?_
  refine lv_ldc (v := (99999 : Int32)) hx hb C.2.2.2.1 (C.2.2.2.2.1.w kc_RX12_135) dX12_nearLine_68 ?_
  obtain ⟨a13, σ13, hc13, h⟩ := bd_el h
  refine x_callVI C S KX12 hx0 (ok_X12_number (L := L) hc13 hSh hx0) ⟨cd_X12_number, ni_RX12, ml_RX12_79, in_X12_number, sl_X12_number⟩ ⟨by decide, by decide⟩ rfl (rm_ok (by decide) (by decide)) hl.1 rfl (Nat.le_of_ble_eq_true rfl) ⟨by decide, by decide⟩ dX12_nearLine_70 (fun H locs S => ?_)
  obtain ⟨hi14, h⟩ := ck_el h
  obtain ⟨σ15, hs15, h⟩ := sq_el h
  refine x_iast (len := 417) C S (by decide) hR12 hi14 dX12_nearLine_73 hs15 (fun H locs S => ?_)
  exact w_X12_nearLine_74 C hr hSh N σ15 x0 ((81 : Int32) + ((18 : Int32) * (σ (R x0 11) (0 : Int32).toNatClampNeg))) h hx0 H locs ls S (lv_sub hl [2, 0] rfl)
theorem dX12_blastLine_0 : decode cX12_blastLine 0 = .ok (.aload_n 0, 1) := by decide +kernel
theorem dX12_blastLine_1 : decode cX12_blastLine 1 = .ok (.invokevirtual 142, 3) := by decide +kernel
theorem dX12_blastLine_4 : decode cX12_blastLine 4 = .ok (.istore_n 1, 1) := by decide +kernel
theorem dX12_blastLine_5 : decode cX12_blastLine 5 = .ok (.sipush 285, 3) := by decide +kernel
theorem dX12_blastLine_8 : decode cX12_blastLine 8 = .ok (.bipush 22, 2) := by decide +kernel
theorem dX12_blastLine_10 : decode cX12_blastLine 10 = .ok (.iload_n 1, 1) := by decide +kernel
theorem dX12_blastLine_11 : decode cX12_blastLine 11 = .ok (.imul, 1) := by decide +kernel
theorem dX12_blastLine_12 : decode cX12_blastLine 12 = .ok (.iadd, 1) := by decide +kernel
theorem dX12_blastLine_13 : decode cX12_blastLine 13 = .ok (.istore_n 2, 1) := by decide +kernel
theorem dX12_blastLine_14 : decode cX12_blastLine 14 = .ok (.aload_n 0, 1) := by decide +kernel
theorem dX12_blastLine_15 : decode cX12_blastLine 15 = .ok (.sipush 285, 3) := by decide +kernel
theorem dX12_blastLine_18 : decode cX12_blastLine 18 = .ok (.bipush 22, 2) := by decide +kernel
theorem dX12_blastLine_20 : decode cX12_blastLine 20 = .ok (.iload_n 1, 1) := by decide +kernel
theorem dX12_blastLine_21 : decode cX12_blastLine 21 = .ok (.invokevirtual 131, 3) := by decide +kernel
theorem dX12_blastLine_24 : decode cX12_blastLine 24 = .ok (.aload_n 0, 1) := by decide +kernel
theorem dX12_blastLine_25 : decode cX12_blastLine 25 = .ok (.getfield 88, 3) := by decide +kernel
theorem dX12_blastLine_28 : decode cX12_blastLine 28 = .ok (.iload_n 2, 1) := by decide +kernel
theorem dX12_blastLine_29 : decode cX12_blastLine 29 = .ok (.bipush 6, 2) := by decide +kernel
theorem dX12_blastLine_31 : decode cX12_blastLine 31 = .ok (.iadd, 1) := by decide +kernel
theorem dX12_blastLine_32 : decode cX12_blastLine 32 = .ok (.aload_n 0, 1) := by decide +kernel
theorem dX12_blastLine_33 : decode cX12_blastLine 33 = .ok (.iconst 0, 1) := by decide +kernel
theorem dX12_blastLine_34 : decode cX12_blastLine 34 = .ok (.sipush 999, 3) := by decide +kernel
theorem dX12_blastLine_37 : decode cX12_blastLine 37 = .ok (.invokevirtual 79, 3) := by decide +kernel
theorem dX12_blastLine_40 : decode cX12_blastLine 40 = .ok (.iastore, 1) := by decide +kernel
theorem dX12_blastLine_41 : decode cX12_blastLine 41 = .ok (.aload_n 0, 1) := by decide +kernel
theorem dX12_blastLine_42 : decode cX12_blastLine 42 = .ok (.getfield 88, 3) := by decide +kernel
theorem dX12_blastLine_45 : decode cX12_blastLine 45 = .ok (.iload_n 2, 1) := by decide +kernel
theorem dX12_blastLine_46 : decode cX12_blastLine 46 = .ok (.bipush 7, 2) := by decide +kernel
theorem dX12_blastLine_48 : decode cX12_blastLine 48 = .ok (.iadd, 1) := by decide +kernel
theorem dX12_blastLine_49 : decode cX12_blastLine 49 = .ok (.aload_n 0, 1) := by decide +kernel
theorem dX12_blastLine_50 : decode cX12_blastLine 50 = .ok (.iconst 0, 1) := by decide +kernel
theorem dX12_blastLine_51 : decode cX12_blastLine 51 = .ok (.sipush 999, 3) := by decide +kernel
theorem dX12_blastLine_54 : decode cX12_blastLine 54 = .ok (.invokevirtual 79, 3) := by decide +kernel
theorem dX12_blastLine_57 : decode cX12_blastLine 57 = .ok (.iastore, 1) := by decide +kernel
theorem dX12_blastLine_58 : decode cX12_blastLine 58 = .ok (.aload_n 0, 1) := by decide +kernel
theorem dX12_blastLine_59 : decode cX12_blastLine 59 = .ok (.getfield 88, 3) := by decide +kernel
theorem dX12_blastLine_62 : decode cX12_blastLine 62 = .ok (.iload_n 2, 1) := by decide +kernel
theorem dX12_blastLine_63 : decode cX12_blastLine 63 = .ok (.bipush 8, 2) := by decide +kernel
theorem dX12_blastLine_65 : decode cX12_blastLine 65 = .ok (.iadd, 1) := by decide +kernel
theorem dX12_blastLine_66 : decode cX12_blastLine 66 = .ok (.aload_n 0, 1) := by decide +kernel
theorem dX12_blastLine_67 : decode cX12_blastLine 67 = .ok (.iconst 1, 1) := by decide +kernel
theorem dX12_blastLine_68 : decode cX12_blastLine 68 = .ok (.sipush 500, 3) := by decide +kernel
theorem dX12_blastLine_71 : decode cX12_blastLine 71 = .ok (.invokevirtual 79, 3) := by decide +kernel
theorem dX12_blastLine_74 : decode cX12_blastLine 74 = .ok (.iastore, 1) := by decide +kernel
theorem dX12_blastLine_75 : decode cX12_blastLine 75 = .ok (.aload_n 0, 1) := by decide +kernel
theorem dX12_blastLine_76 : decode cX12_blastLine 76 = .ok (.getfield 88, 3) := by decide +kernel
theorem dX12_blastLine_79 : decode cX12_blastLine 79 = .ok (.iload_n 2, 1) := by decide +kernel
theorem dX12_blastLine_80 : decode cX12_blastLine 80 = .ok (.bipush 9, 2) := by decide +kernel
theorem dX12_blastLine_82 : decode cX12_blastLine 82 = .ok (.iadd, 1) := by decide +kernel
theorem dX12_blastLine_83 : decode cX12_blastLine 83 = .ok (.iaload, 1) := by decide +kernel
theorem dX12_blastLine_84 : decode cX12_blastLine 84 = .ok (.istore_n 3, 1) := by decide +kernel
theorem dX12_blastLine_85 : decode cX12_blastLine 85 = .ok (.aload_n 0, 1) := by decide +kernel
theorem dX12_blastLine_86 : decode cX12_blastLine 86 = .ok (.invokevirtual 47, 3) := by decide +kernel
theorem dX12_blastLine_89 : decode cX12_blastLine 89 = .ok (.aload_n 0, 1) := by decide +kernel
theorem dX12_blastLine_90 : decode cX12_blastLine 90 = .ok (.iload_n 3, 1) := by decide +kernel
theorem dX12_blastLine_91 : decode cX12_blastLine 91 = .ok (.bipush 12, 2) := by decide +kernel
theorem dX12_blastLine_93 : decode cX12_blastLine 93 = .ok (.if_icmp .ge 7, 3) := by decide +kernel
theorem dX12_blastLine_96 : decode cX12_blastLine 96 = .ok (.iconst 1, 1) := by decide +kernel
theorem dX12_blastLine_97 : decode cX12_blastLine 97 = .ok (.goto 4, 3) := by decide +kernel
theorem dX12_blastLine_100 : decode cX12_blastLine 100 = .ok (.iconst 0, 1) := by decide +kernel
theorem dX12_blastLine_101 : decode cX12_blastLine 101 = .ok (.iconst 4, 1) := by decide +kernel
theorem dX12_blastLine_102 : decode cX12_blastLine 102 = .ok (.invokevirtual 67, 3) := by decide +kernel
theorem dX12_blastLine_105 : decode cX12_blastLine 105 = .ok (.aload_n 0, 1) := by decide +kernel
theorem dX12_blastLine_106 : decode cX12_blastLine 106 = .ok (.invokevirtual 40, 3) := by decide +kernel
theorem dX12_blastLine_109 : decode cX12_blastLine 109 = .ok (.ifCond .eq 4, 3) := by decide +kernel
theorem dX12_blastLine_112 : decode cX12_blastLine 112 = .ok (.return_, 1) := by decide +kernel
theorem dX12_blastLine_113 : decode cX12_blastLine 113 = .ok (.aload_n 0, 1) := by decide +kernel
theorem dX12_blastLine_114 : decode cX12_blastLine 114 = .ok (.getfield 88, 3) := by decide +kernel
theorem dX12_blastLine_117 : decode cX12_blastLine 117 = .ok (.iload_n 2, 1) := by decide +kernel
theorem dX12_blastLine_118 : decode cX12_blastLine 118 = .ok (.bipush 10, 2) := by decide +kernel
theorem dX12_blastLine_120 : decode cX12_blastLine 120 = .ok (.iadd, 1) := by decide +kernel
theorem dX12_blastLine_121 : decode cX12_blastLine 121 = .ok (.iload_n 3, 1) := by decide +kernel
theorem dX12_blastLine_122 : decode cX12_blastLine 122 = .ok (.iadd, 1) := by decide +kernel
theorem dX12_blastLine_123 : decode cX12_blastLine 123 = .ok (.aload_n 0, 1) := by decide +kernel
theorem dX12_blastLine_124 : decode cX12_blastLine 124 = .ok (.iconst 1, 1) := by decide +kernel
theorem dX12_blastLine_125 : decode cX12_blastLine 125 = .ok (.sipush 999, 3) := by decide +kernel
theorem dX12_blastLine_128 : decode cX12_blastLine 128 = .ok (.invokevirtual 79, 3) := by decide +kernel
theorem dX12_blastLine_131 : decode cX12_blastLine 131 = .ok (.iastore, 1) := by decide +kernel
theorem dX12_blastLine_132 : decode cX12_blastLine 132 = .ok (.aload_n 0, 1) := by decide +kernel
theorem dX12_blastLine_133 : decode cX12_blastLine 133 = .ok (.getfield 97, 3) := by decide +kernel
theorem dX12_blastLine_136 : decode cX12_blastLine 136 = .ok (.bipush 14, 2) := by decide +kernel
theorem dX12_blastLine_138 : decode cX12_blastLine 138 = .ok (.iload_n 1, 1) := by decide +kernel
theorem dX12_blastLine_139 : decode cX12_blastLine 139 = .ok (.imul, 1) := by decide +kernel
theorem dX12_blastLine_140 : decode cX12_blastLine 140 = .ok (.iconst 2, 1) := by decide +kernel
theorem dX12_blastLine_141 : decode cX12_blastLine 141 = .ok (.iadd, 1) := by decide +kernel
theorem dX12_blastLine_142 : decode cX12_blastLine 142 = .ok (.iload_n 3, 1) := by decide +kernel
theorem dX12_blastLine_143 : decode cX12_blastLine 143 = .ok (.iadd, 1) := by decide +kernel
theorem dX12_blastLine_144 : decode cX12_blastLine 144 = .ok (.aload_n 0, 1) := by decide +kernel
theorem dX12_blastLine_145 : decode cX12_blastLine 145 = .ok (.ldc 145, 2) := by decide +kernel
theorem dX12_blastLine_147 : decode cX12_blastLine 147 = .ok (.iconst 0, 1) := by decide +kernel
theorem dX12_blastLine_148 : decode cX12_blastLine 148 = .ok (.sipush 9999, 3) := by decide +kernel
theorem dX12_blastLine_151 : decode cX12_blastLine 151 = .ok (.invokevirtual 138, 3) := by decide +kernel
theorem dX12_blastLine_154 : decode cX12_blastLine 154 = .ok (.iastore, 1) := by decide +kernel
theorem dX12_blastLine_155 : decode cX12_blastLine 155 = .ok (.aload_n 0, 1) := by decide +kernel
theorem dX12_blastLine_156 : decode cX12_blastLine 156 = .ok (.getfield 88, 3) := by decide +kernel
theorem dX12_blastLine_159 : decode cX12_blastLine 159 = .ok (.iload_n 2, 1) := by decide +kernel
theorem dX12_blastLine_160 : decode cX12_blastLine 160 = .ok (.bipush 9, 2) := by decide +kernel
theorem dX12_blastLine_162 : decode cX12_blastLine 162 = .ok (.iadd, 1) := by decide +kernel
theorem dX12_blastLine_163 : decode cX12_blastLine 163 = .ok (.dup2, 1) := by decide +kernel
theorem dX12_blastLine_164 : decode cX12_blastLine 164 = .ok (.iaload, 1) := by decide +kernel
theorem dX12_blastLine_165 : decode cX12_blastLine 165 = .ok (.iconst 1, 1) := by decide +kernel
theorem dX12_blastLine_166 : decode cX12_blastLine 166 = .ok (.iadd, 1) := by decide +kernel
theorem dX12_blastLine_167 : decode cX12_blastLine 167 = .ok (.iastore, 1) := by decide +kernel
theorem dX12_blastLine_168 : decode cX12_blastLine 168 = .ok (.aload_n 0, 1) := by decide +kernel
theorem dX12_blastLine_169 : decode cX12_blastLine 169 = .ok (.invokevirtual 64, 3) := by decide +kernel
theorem dX12_blastLine_172 : decode cX12_blastLine 172 = .ok (.ifCond .ne (-97), 3) := by decide +kernel
theorem dX12_blastLine_175 : decode cX12_blastLine 175 = .ok (.aload_n 0, 1) := by decide +kernel
theorem dX12_blastLine_176 : decode cX12_blastLine 176 = .ok (.getfield 88, 3) := by decide +kernel
theorem dX12_blastLine_179 : decode cX12_blastLine 179 = .ok (.iconst 2, 1) := by decide +kernel
theorem dX12_blastLine_180 : decode cX12_blastLine 180 = .ok (.dup2, 1) := by decide +kernel
theorem dX12_blastLine_181 : decode cX12_blastLine 181 = .ok (.iaload, 1) := by decide +kernel
theorem dX12_blastLine_182 : decode cX12_blastLine 182 = .ok (.iconst 1, 1) := by decide +kernel
theorem dX12_blastLine_183 : decode cX12_blastLine 183 = .ok (.iadd, 1) := by decide +kernel
theorem dX12_blastLine_184 : decode cX12_blastLine 184 = .ok (.iastore, 1) := by decide +kernel
theorem dX12_blastLine_185 : decode cX12_blastLine 185 = .ok (.return_, 1) := by decide +kernel
def f_X12_blastLine_75 (N : Nat) (R : Nat → Nat → Nat) : Nat → SI → Nat → Int32 → Int32 → Option (Unit × SI)
  | 0, _, _, _, _ => none
  | n + 1, σ, x0, x1, x2 => ck (x2 + (9 : Int32)) 417 (bd (f_X12_blanks N R σ x0) (fun _ σ17 => if (12 : Int32) ≤ (σ (R x0 11) (x2 + (9 : Int32)).toNatClampNeg) then (bd (f_X12_must N R σ17 x0 (0 : Int32) (4 : Int32)) (fun _ σ19 => bd (f_X12_hasFailed N R σ19 x0) (fun a20 σ20 => if a20 = 0 then (bd (f_X12_number N R σ20 x0 (1 : Int32) (999 : Int32)) (fun a23 σ23 => ck ((x2 + (10 : Int32)) + (σ (R x0 11) (x2 + (9 : Int32)).toNatClampNeg)) 417 (sq (up σ23 (R x0 11) ((x2 + (10 : Int32)) + (σ (R x0 11) (x2 + (9 : Int32)).toNatClampNeg)).toNatClampNeg a23) (fun σ25 => bd (f_X12_after N R σ25 x0 4 (0 : Int32) (9999 : Int32)) (fun a27 σ27 => ck ((((14 : Int32) * x1) + (2 : Int32)) + (σ (R x0 11) (x2 + (9 : Int32)).toNatClampNeg)) 84 (sq (up σ27 (R x0 14) ((((14 : Int32) * x1) + (2 : Int32)) + (σ (R x0 11) (x2 + (9 : Int32)).toNatClampNeg)).toNatClampNeg a27) (fun σ29 => ck (x2 + (9 : Int32)) 417 (ck (x2 + (9 : Int32)) 417 (sq (up σ29 (R x0 11) (x2 + (9 : Int32)).toNatClampNeg ((σ29 (R x0 11) (x2 + (9 : Int32)).toNatClampNeg) + (1 : Int32))) (fun σ33 => bd (f_X12_isFigure N R σ33 x0) (fun a34 σ34 => if a34 = 0 then (ck (2 : Int32) 417 (ck (2 : Int32) 417 (sq (up σ34 (R x0 11) (2 : Int32).toNatClampNeg ((σ34 (R x0 11) (2 : Int32).toNatClampNeg) + (1 : Int32))) (fun σ39 => some ((), σ39))))) else (f_X12_blastLine_75 N R n σ34 x0 x1 x2)))))))))))) else (some ((), σ20))))) else (bd (f_X12_must N R σ17 x0 (1 : Int32) (4 : Int32)) (fun _ σ40 => bd (f_X12_hasFailed N R σ40 x0) (fun a41 σ41 => if a41 = 0 then (bd (f_X12_number N R σ41 x0 (1 : Int32) (999 : Int32)) (fun a44 σ44 => ck ((x2 + (10 : Int32)) + (σ (R x0 11) (x2 + (9 : Int32)).toNatClampNeg)) 417 (sq (up σ44 (R x0 11) ((x2 + (10 : Int32)) + (σ (R x0 11) (x2 + (9 : Int32)).toNatClampNeg)).toNatClampNeg a44) (fun σ46 => bd (f_X12_after N R σ46 x0 4 (0 : Int32) (9999 : Int32)) (fun a48 σ48 => ck ((((14 : Int32) * x1) + (2 : Int32)) + (σ (R x0 11) (x2 + (9 : Int32)).toNatClampNeg)) 84 (sq (up σ48 (R x0 14) ((((14 : Int32) * x1) + (2 : Int32)) + (σ (R x0 11) (x2 + (9 : Int32)).toNatClampNeg)).toNatClampNeg a48) (fun σ50 => ck (x2 + (9 : Int32)) 417 (ck (x2 + (9 : Int32)) 417 (sq (up σ50 (R x0 11) (x2 + (9 : Int32)).toNatClampNeg ((σ50 (R x0 11) (x2 + (9 : Int32)).toNatClampNeg) + (1 : Int32))) (fun σ54 => bd (f_X12_isFigure N R σ54 x0) (fun a55 σ55 => if a55 = 0 then (ck (2 : Int32) 417 (ck (2 : Int32) 417 (sq (up σ55 (R x0 11) (2 : Int32).toNatClampNeg ((σ55 (R x0 11) (2 : Int32).toNatClampNeg) + (1 : Int32))) (fun σ60 => some ((), σ60))))) else (f_X12_blastLine_75 N R n σ55 x0 x1 x2)))))))))))) else (some ((), σ41)))))))
def f_X12_blastLine (N : Nat) (R : Nat → Nat → Nat) (σ : SI) (x0 : Nat) : Option (Unit × SI) := bd (f_X12_blasts N R σ x0) (fun a1 σ1 => bd (f_X12_name N R σ1 x0 (285 : Int32) (22 : Int32) a1) (fun _ σ2 => bd (f_X12_number N R σ2 x0 (0 : Int32) (999 : Int32)) (fun a4 σ4 => ck (((285 : Int32) + ((22 : Int32) * a1)) + (6 : Int32)) 417 (sq (up σ4 (R x0 11) (((285 : Int32) + ((22 : Int32) * a1)) + (6 : Int32)).toNatClampNeg a4) (fun σ6 => bd (f_X12_number N R σ6 x0 (0 : Int32) (999 : Int32)) (fun a8 σ8 => ck (((285 : Int32) + ((22 : Int32) * a1)) + (7 : Int32)) 417 (sq (up σ8 (R x0 11) (((285 : Int32) + ((22 : Int32) * a1)) + (7 : Int32)).toNatClampNeg a8) (fun σ10 => bd (f_X12_number N R σ10 x0 (1 : Int32) (500 : Int32)) (fun a12 σ12 => ck (((285 : Int32) + ((22 : Int32) * a1)) + (8 : Int32)) 417 (sq (up σ12 (R x0 11) (((285 : Int32) + ((22 : Int32) * a1)) + (8 : Int32)).toNatClampNeg a12) (fun σ14 => f_X12_blastLine_75 N R N σ14 x0 a1 ((285 : Int32) + ((22 : Int32) * a1)))))))))))))
set_option maxHeartbeats 4000000 in
set_option maxRecDepth 100000 in
theorem w_X12_blastLine_75 {l : Launch} {g : GL} {p : Program} {e : Jvm.Env} {s : State} {m : MethodId} {args : Array Value} {below : List Frame} {meth : Method} {c : Code} {R : Nat → Nat → Nat} {L : Nat → Nat → Int64} {r : (Unit × SI)} {N : Nat} (C : Cx l g p s m meth c cX12_blastLine 4 RX12) (hr : meth.sig.returnType = none) (hSh : ShR R) : ∀ (n : Nat) (σ : SI) (x0 : Nat) (x1 : Int32) (x2 : Int32), f_X12_blastLine_75 N R n σ x0 x1 x2 = some r → Ok 194 x0 12 → ∀ (H : Heap) (locs : List Loc) (ls : Array Slot), S2 g s σ R L H locs → lv_has ls 4 [(0, .ref (gb g + x0)), (1, .int x1), (2, .int x2)] → W p l e (rmd 7 0 0) s m args below meth c H locs 0 0 (MQ below (Qg g 194 (PV R L r)) args s 0 0 (gA g)) (F0 m 75 ls []) := by
  have hx := C.1
  have hb := C.2.1
  intro n
  induction n with
  | zero =>
    intro σ x0 x1 x2 h
    cases (show (none : Option (Unit × SI)) = some r from h)
  | succ n ih =>
    intro σ x0 x1 x2 h hx0 H locs ls S hl
    rw [f_X12_blastLine_75] at h
    refine lv_aload_n hx hb dX12_blastLine_75 rfl (lv_at hl 0 rfl) ?_
    have hR15 : Ok 194 (R x0 11) 10417 := hSh x0 12 11 10417 hx0.1 rfl
    refine x_getR C S KX12 hx0 11 (by decide) rfl rfl fl_RX12_88 hR15 dX12_blastLine_76 ?_
    refine lv_iload_n hx hb dX12_blastLine_79 rfl (lv_at hl 2 rfl) ?_
    refine lv_bipush (v := (9 : Int32)) hx hb dX12_blastLine_80 (by decide) ?_
    refine lv_iadd hx hb dX12_blastLine_82 ?_
    obtain ⟨hi16, h⟩ := ck_el h
    refine x_iald (len := 417) C S (by decide) hR15 hi16 dX12_blastLine_83 ?_
    refine lv_istore_n (lv' := [(3, .int (σ (R x0 11) (x2 + (9 : Int32)).toNatClampNeg)), (0, .ref (gb g + x0)), (1, .int x1), (2, .int x2)]) hx hb dX12_blastLine_84 rfl hl (by decide) rfl (fun ls hl => ?_)
    refine lv_aload_n hx hb dX12_blastLine_85 rfl (lv_at hl 1 rfl) ?_
    obtain ⟨a17, σ17, hc17, h⟩ := bd_el h
    refine x_callVV C S KX12 hx0 (ok_X12_blanks (L := L) hc17 hSh hx0) ⟨cd_X12_blanks, ni_RX12, ml_RX12_47, in_X12_blanks, sl_X12_blanks⟩ ⟨by decide, by decide⟩ rfl (rm_ok (by decide) (by decide)) hl.1 rfl (Nat.le_of_ble_eq_true rfl) ⟨by decide, by decide⟩ dX12_blastLine_86 (fun H locs S => ?_)
    refine lv_aload_n hx hb dX12_blastLine_89 rfl (lv_at hl 1 rfl) ?_
    refine lv_iload_n hx hb dX12_blastLine_90 rfl (lv_at hl 0 rfl) ?_
    refine lv_bipush (v := (12 : Int32)) hx hb dX12_blastLine_91 (by decide) ?_
    refine lv_icmp_ge (tgt := 100) hx hb dX12_blastLine_93 (by decide) (fun c18 => ?_) (fun c18 => ?_)
    · have h := it_p c18 h
      refine lv_iconst (v := (0 : Int32)) hx hb dX12_blastLine_100 (by decide) ?_
      refine lv_iconst (v := (4 : Int32)) hx hb dX12_blastLine_101 (by decide) ?_
      obtain ⟨a19, σ19, hc19, h⟩ := bd_el h
      refine x_callVV C S KX12 hx0 (ok_X12_must (L := L) hc19 hSh hx0) ⟨cd_X12_must, ni_RX12, ml_RX12_67, in_X12_must, sl_X12_must⟩ ⟨by decide, by decide⟩ rfl (rm_ok (by decide) (by decide)) hl.1 rfl (Nat.le_of_ble_eq_true rfl) ⟨by decide, by decide⟩ dX12_blastLine_102 (fun H locs S => ?_)
      refine lv_aload_n hx hb dX12_blastLine_105 rfl (lv_at hl 1 rfl) ?_
      obtain ⟨a20, σ20, hc20, h⟩ := bd_el h
      refine x_callVI C S KX12 hx0 (ok_X12_hasFailed (L := L) hc20 hSh hx0) ⟨cd_X12_hasFailed, ni_RX12, ml_RX12_40, in_X12_hasFailed, sl_X12_hasFailed⟩ ⟨by decide, by decide⟩ rfl (rm_ok (by decide) (by decide)) hl.1 rfl (Nat.le_of_ble_eq_true rfl) ⟨by decide, by decide⟩ dX12_blastLine_106 (fun H locs S => ?_)
      refine lv_if_eq (tgt := 113) hx hb dX12_blastLine_109 (by decide) (fun c21 => ?_) (fun c21 => ?_)
      · have h := it_p c21 h
        refine lv_aload_n hx hb dX12_blastLine_113 rfl (lv_at hl 1 rfl) ?_
        have hR22 : Ok 194 (R x0 11) 10417 := hSh x0 12 11 10417 hx0.1 rfl
        refine x_getR C S KX12 hx0 11 (by decide) rfl rfl fl_RX12_88 hR22 dX12_blastLine_114 ?_
        refine lv_iload_n hx hb dX12_blastLine_117 rfl (lv_at hl 3 rfl) ?_
        refine lv_bipush (v := (10 : Int32)) hx hb dX12_blastLine_118 (by decide) ?_
        refine lv_iadd hx hb dX12_blastLine_120 ?_
        refine lv_iload_n hx hb dX12_blastLine_121 rfl (lv_at hl 0 rfl) ?_
        refine lv_iadd hx hb dX12_blastLine_122 ?_
        refine lv_aload_n hx hb dX12_blastLine_123 rfl (lv_at hl 1 rfl) ?_
        refine lv_iconst (v := (1 : Int32)) hx hb dX12_blastLine_124 (by decide) ?_
        refine lv_sipush (v := (999 : Int32)) hx hb dX12_blastLine_125 (by decide) ?_
        obtain ⟨a23, σ23, hc23, h⟩ := bd_el h
        refine x_callVI C S KX12 hx0 (ok_X12_number (L := L) hc23 hSh hx0) ⟨cd_X12_number, ni_RX12, ml_RX12_79, in_X12_number, sl_X12_number⟩ ⟨by decide, by decide⟩ rfl (rm_ok (by decide) (by decide)) hl.1 rfl (Nat.le_of_ble_eq_true rfl) ⟨by decide, by decide⟩ dX12_blastLine_128 (fun H locs S => ?_)
        obtain ⟨hi24, h⟩ := ck_el h
        obtain ⟨σ25, hs25, h⟩ := sq_el h
        refine x_iast (len := 417) C S (by decide) hR22 hi24 dX12_blastLine_131 hs25 (fun H locs S => ?_)
        refine lv_aload_n hx hb dX12_blastLine_132 rfl (lv_at hl 1 rfl) ?_
        have hR26 : Ok 194 (R x0 14) 10084 := hSh x0 12 14 10084 hx0.1 rfl
        refine x_getR C S KX12 hx0 14 (by decide) rfl rfl fl_RX12_97 hR26 dX12_blastLine_133 ?_
        refine lv_bipush (v := (14 : Int32)) hx hb dX12_blastLine_136 (by decide) ?_
        refine lv_iload_n hx hb dX12_blastLine_138 rfl (lv_at hl 2 rfl) ?_
        refine lv_imul hx hb dX12_blastLine_139 ?_
        refine lv_iconst (v := (2 : Int32)) hx hb dX12_blastLine_140 (by decide) ?_
        refine lv_iadd hx hb dX12_blastLine_141 ?_
        refine lv_iload_n hx hb dX12_blastLine_142 rfl (lv_at hl 0 rfl) ?_
        refine lv_iadd hx hb dX12_blastLine_143 ?_
        refine lv_aload_n hx hb dX12_blastLine_144 rfl (lv_at hl 1 rfl) ?_
        refine x_ldcs C (k := 145) (tx := "at") (ia := 4) (by decide) dX12_blastLine_145 ?_
        refine lv_iconst (v := (0 : Int32)) hx hb dX12_blastLine_147 (by decide) ?_
        refine lv_sipush (v := (9999 : Int32)) hx hb dX12_blastLine_148 (by decide) ?_
        obtain ⟨a27, σ27, hc27, h⟩ := bd_el h
        refine x_callVI C S KX12 hx0 (ok_X12_after (L := L) hc27 hSh hx0 (by decide)) ⟨cd_X12_after, ni_RX12, ml_RX12_138, in_X12_after, sl_X12_after⟩ ⟨by decide, by decide⟩ rfl (rm_ok (by decide) (by decide)) hl.1 rfl (Nat.le_of_ble_eq_true rfl) ⟨by decide, by decide⟩ dX12_blastLine_151 (fun H locs S => ?_)
        obtain ⟨hi28, h⟩ := ck_el h
        obtain ⟨σ29, hs29, h⟩ := sq_el h
        refine x_iast (len := 84) C S (by decide) hR26 hi28 dX12_blastLine_154 hs29 (fun H locs S => ?_)
        refine lv_aload_n hx hb dX12_blastLine_155 rfl (lv_at hl 1 rfl) ?_
        have hR30 : Ok 194 (R x0 11) 10417 := hSh x0 12 11 10417 hx0.1 rfl
        refine x_getR C S KX12 hx0 11 (by decide) rfl rfl fl_RX12_88 hR30 dX12_blastLine_156 ?_
        refine lv_iload_n hx hb dX12_blastLine_159 rfl (lv_at hl 3 rfl) ?_
        refine lv_bipush (v := (9 : Int32)) hx hb dX12_blastLine_160 (by decide) ?_
        refine lv_iadd hx hb dX12_blastLine_162 ?_
        refine lv_dup2_11 hx hb dX12_blastLine_163 rfl rfl ?_
        obtain ⟨hi31, h⟩ := ck_el h
        refine x_iald (len := 417) C S (by decide) hR30 hi31 dX12_blastLine_164 ?_
        refine lv_iconst (v := (1 : Int32)) hx hb dX12_blastLine_165 (by decide) ?_
        refine lv_iadd hx hb dX12_blastLine_166 ?_
        obtain ⟨hi32, h⟩ := ck_el h
        obtain ⟨σ33, hs33, h⟩ := sq_el h
        refine x_iast (len := 417) C S (by decide) hR30 hi32 dX12_blastLine_167 hs33 (fun H locs S => ?_)
        refine lv_aload_n hx hb dX12_blastLine_168 rfl (lv_at hl 1 rfl) ?_
        obtain ⟨a34, σ34, hc34, h⟩ := bd_el h
        refine x_callVI C S KX12 hx0 (ok_X12_isFigure (L := L) hc34 hSh hx0) ⟨cd_X12_isFigure, ni_RX12, ml_RX12_64, in_X12_isFigure, sl_X12_isFigure⟩ ⟨by decide, by decide⟩ rfl (rm_ok (by decide) (by decide)) hl.1 rfl (Nat.le_of_ble_eq_true rfl) ⟨by decide, by decide⟩ dX12_blastLine_169 (fun H locs S => ?_)
        refine lv_if_ne (tgt := 75) hx hb dX12_blastLine_172 (by decide) (fun c35 => ?_) (fun c35 => ?_)
        · have h := it_n c35 h
          exact ih σ34 x0 x1 x2 h hx0 H locs ls S (lv_sub hl [1, 2, 3] rfl)
        · have h := it_p c35 h
          refine lv_aload_n hx hb dX12_blastLine_175 rfl (lv_at hl 1 rfl) ?_
          have hR36 : Ok 194 (R x0 11) 10417 := hSh x0 12 11 10417 hx0.1 rfl
          refine x_getR C S KX12 hx0 11 (by decide) rfl rfl fl_RX12_88 hR36 dX12_blastLine_176 ?_
          refine lv_iconst (v := (2 : Int32)) hx hb dX12_blastLine_179 (by decide) ?_
          refine lv_dup2_11 hx hb dX12_blastLine_180 rfl rfl ?_
          obtain ⟨hi37, h⟩ := ck_el h
          refine x_iald (len := 417) C S (by decide) hR36 hi37 dX12_blastLine_181 ?_
          refine lv_iconst (v := (1 : Int32)) hx hb dX12_blastLine_182 (by decide) ?_
          refine lv_iadd hx hb dX12_blastLine_183 ?_
          obtain ⟨hi38, h⟩ := ck_el h
          obtain ⟨σ39, hs39, h⟩ := sq_el h
          refine x_iast (len := 417) C S (by decide) hR36 hi38 dX12_blastLine_184 hs39 (fun H locs S => ?_)
          exact x_vret C S hr h dX12_blastLine_185
      · have h := it_n c21 h
        exact x_vret C S hr h dX12_blastLine_112
    · have h := it_n c18 h
      refine lv_iconst (v := (1 : Int32)) hx hb dX12_blastLine_96 (by decide) ?_
      refine lv_goto (tgt := 101) hx hb dX12_blastLine_97 (by decide) ?_
      refine lv_iconst (v := (4 : Int32)) hx hb dX12_blastLine_101 (by decide) ?_
      obtain ⟨a40, σ40, hc40, h⟩ := bd_el h
      refine x_callVV C S KX12 hx0 (ok_X12_must (L := L) hc40 hSh hx0) ⟨cd_X12_must, ni_RX12, ml_RX12_67, in_X12_must, sl_X12_must⟩ ⟨by decide, by decide⟩ rfl (rm_ok (by decide) (by decide)) hl.1 rfl (Nat.le_of_ble_eq_true rfl) ⟨by decide, by decide⟩ dX12_blastLine_102 (fun H locs S => ?_)
      refine lv_aload_n hx hb dX12_blastLine_105 rfl (lv_at hl 1 rfl) ?_
      obtain ⟨a41, σ41, hc41, h⟩ := bd_el h
      refine x_callVI C S KX12 hx0 (ok_X12_hasFailed (L := L) hc41 hSh hx0) ⟨cd_X12_hasFailed, ni_RX12, ml_RX12_40, in_X12_hasFailed, sl_X12_hasFailed⟩ ⟨by decide, by decide⟩ rfl (rm_ok (by decide) (by decide)) hl.1 rfl (Nat.le_of_ble_eq_true rfl) ⟨by decide, by decide⟩ dX12_blastLine_106 (fun H locs S => ?_)
      refine lv_if_eq (tgt := 113) hx hb dX12_blastLine_109 (by decide) (fun c42 => ?_) (fun c42 => ?_)
      · have h := it_p c42 h
        refine lv_aload_n hx hb dX12_blastLine_113 rfl (lv_at hl 1 rfl) ?_
        have hR43 : Ok 194 (R x0 11) 10417 := hSh x0 12 11 10417 hx0.1 rfl
        refine x_getR C S KX12 hx0 11 (by decide) rfl rfl fl_RX12_88 hR43 dX12_blastLine_114 ?_
        refine lv_iload_n hx hb dX12_blastLine_117 rfl (lv_at hl 3 rfl) ?_
        refine lv_bipush (v := (10 : Int32)) hx hb dX12_blastLine_118 (by decide) ?_
        refine lv_iadd hx hb dX12_blastLine_120 ?_
        refine lv_iload_n hx hb dX12_blastLine_121 rfl (lv_at hl 0 rfl) ?_
        refine lv_iadd hx hb dX12_blastLine_122 ?_
        refine lv_aload_n hx hb dX12_blastLine_123 rfl (lv_at hl 1 rfl) ?_
        refine lv_iconst (v := (1 : Int32)) hx hb dX12_blastLine_124 (by decide) ?_
        refine lv_sipush (v := (999 : Int32)) hx hb dX12_blastLine_125 (by decide) ?_
        obtain ⟨a44, σ44, hc44, h⟩ := bd_el h
        refine x_callVI C S KX12 hx0 (ok_X12_number (L := L) hc44 hSh hx0) ⟨cd_X12_number, ni_RX12, ml_RX12_79, in_X12_number, sl_X12_number⟩ ⟨by decide, by decide⟩ rfl (rm_ok (by decide) (by decide)) hl.1 rfl (Nat.le_of_ble_eq_true rfl) ⟨by decide, by decide⟩ dX12_blastLine_128 (fun H locs S => ?_)
        obtain ⟨hi45, h⟩ := ck_el h
        obtain ⟨σ46, hs46, h⟩ := sq_el h
        refine x_iast (len := 417) C S (by decide) hR43 hi45 dX12_blastLine_131 hs46 (fun H locs S => ?_)
        refine lv_aload_n hx hb dX12_blastLine_132 rfl (lv_at hl 1 rfl) ?_
        have hR47 : Ok 194 (R x0 14) 10084 := hSh x0 12 14 10084 hx0.1 rfl
        refine x_getR C S KX12 hx0 14 (by decide) rfl rfl fl_RX12_97 hR47 dX12_blastLine_133 ?_
        refine lv_bipush (v := (14 : Int32)) hx hb dX12_blastLine_136 (by decide) ?_
        refine lv_iload_n hx hb dX12_blastLine_138 rfl (lv_at hl 2 rfl) ?_
        refine lv_imul hx hb dX12_blastLine_139 ?_
        refine lv_iconst (v := (2 : Int32)) hx hb dX12_blastLine_140 (by decide) ?_
        refine lv_iadd hx hb dX12_blastLine_141 ?_
        refine lv_iload_n hx hb dX12_blastLine_142 rfl (lv_at hl 0 rfl) ?_
        refine lv_iadd hx hb dX12_blastLine_143 ?_
        refine lv_aload_n hx hb dX12_blastLine_144 rfl (lv_at hl 1 rfl) ?_
        refine x_ldcs C (k := 145) (tx := "at") (ia := 4) (by decide) dX12_blastLine_145 ?_
        refine lv_iconst (v := (0 : Int32)) hx hb dX12_blastLine_147 (by decide) ?_
        refine lv_sipush (v := (9999 : Int32)) hx hb dX12_blastLine_148 (by decide) ?_
        obtain ⟨a48, σ48, hc48, h⟩ := bd_el h
        refine x_callVI C S KX12 hx0 (ok_X12_after (L := L) hc48 hSh hx0 (by decide)) ⟨cd_X12_after, ni_RX12, ml_RX12_138, in_X12_after, sl_X12_after⟩ ⟨by decide, by decide⟩ rfl (rm_ok (by decide) (by decide)) hl.1 rfl (Nat.le_of_ble_eq_true rfl) ⟨by decide, by decide⟩ dX12_blastLine_151 (fun H locs S => ?_)
        obtain ⟨hi49, h⟩ := ck_el h
        obtain ⟨σ50, hs50, h⟩ := sq_el h
        refine x_iast (len := 84) C S (by decide) hR47 hi49 dX12_blastLine_154 hs50 (fun H locs S => ?_)
        refine lv_aload_n hx hb dX12_blastLine_155 rfl (lv_at hl 1 rfl) ?_
        have hR51 : Ok 194 (R x0 11) 10417 := hSh x0 12 11 10417 hx0.1 rfl
        refine x_getR C S KX12 hx0 11 (by decide) rfl rfl fl_RX12_88 hR51 dX12_blastLine_156 ?_
        refine lv_iload_n hx hb dX12_blastLine_159 rfl (lv_at hl 3 rfl) ?_
        refine lv_bipush (v := (9 : Int32)) hx hb dX12_blastLine_160 (by decide) ?_
        refine lv_iadd hx hb dX12_blastLine_162 ?_
        refine lv_dup2_11 hx hb dX12_blastLine_163 rfl rfl ?_
        obtain ⟨hi52, h⟩ := ck_el h
        refine x_iald (len := 417) C S (by decide) hR51 hi52 dX12_blastLine_164 ?_
        refine lv_iconst (v := (1 : Int32)) hx hb dX12_blastLine_165 (by decide) ?_
        refine lv_iadd hx hb dX12_blastLine_166 ?_
        obtain ⟨hi53, h⟩ := ck_el h
        obtain ⟨σ54, hs54, h⟩ := sq_el h
        refine x_iast (len := 417) C S (by decide) hR51 hi53 dX12_blastLine_167 hs54 (fun H locs S => ?_)
        refine lv_aload_n hx hb dX12_blastLine_168 rfl (lv_at hl 1 rfl) ?_
        obtain ⟨a55, σ55, hc55, h⟩ := bd_el h
        refine x_callVI C S KX12 hx0 (ok_X12_isFigure (L := L) hc55 hSh hx0) ⟨cd_X12_isFigure, ni_RX12, ml_RX12_64, in_X12_isFigure, sl_X12_isFigure⟩ ⟨by decide, by decide⟩ rfl (rm_ok (by decide) (by decide)) hl.1 rfl (Nat.le_of_ble_eq_true rfl) ⟨by decide, by decide⟩ dX12_blastLine_169 (fun H locs S => ?_)
        refine lv_if_ne (tgt := 75) hx hb dX12_blastLine_172 (by decide) (fun c56 => ?_) (fun c56 => ?_)
        · have h := it_n c56 h
          exact ih σ55 x0 x1 x2 h hx0 H locs ls S (lv_sub hl [1, 2, 3] rfl)
        · have h := it_p c56 h
          refine lv_aload_n hx hb dX12_blastLine_175 rfl (lv_at hl 1 rfl) ?_
          have hR57 : Ok 194 (R x0 11) 10417 := hSh x0 12 11 10417 hx0.1 rfl
          refine x_getR C S KX12 hx0 11 (by decide) rfl rfl fl_RX12_88 hR57 dX12_blastLine_176 ?_
          refine lv_iconst (v := (2 : Int32)) hx hb dX12_blastLine_179 (by decide) ?_
          refine lv_dup2_11 hx hb dX12_blastLine_180 rfl rfl ?_
          obtain ⟨hi58, h⟩ := ck_el h
          refine x_iald (len := 417) C S (by decide) hR57 hi58 dX12_blastLine_181 ?_
          refine lv_iconst (v := (1 : Int32)) hx hb dX12_blastLine_182 (by decide) ?_
          refine lv_iadd hx hb dX12_blastLine_183 ?_
          obtain ⟨hi59, h⟩ := ck_el h
          obtain ⟨σ60, hs60, h⟩ := sq_el h
          refine x_iast (len := 417) C S (by decide) hR57 hi59 dX12_blastLine_184 hs60 (fun H locs S => ?_)
          exact x_vret C S hr h dX12_blastLine_185
      · have h := it_n c42 h
        exact x_vret C S hr h dX12_blastLine_112
set_option maxHeartbeats 4000000 in
set_option maxRecDepth 100000 in
theorem ok_X12_blastLine {l : Launch} {g : GL} {R : Nat → Nat → Nat} {L : Nat → Nat → Int64} {N : Nat} {σ : SI} {x0 : Nat} {r : (Unit × SI)} (h : f_X12_blastLine N R σ x0 = some r) (hSh : ShR R) (hx0 : Ok 194 x0 12) : Ct l g 7 yX12_blastLine cX12_blastLine 4 none 194 194 0 0 [.ref (gb g + x0)] (mkS σ R L) (PV R L r) := by
  refine Met.ofW (cc := cX12_blastLine) (maxL := 4) (ret := none) (by decide) rfl ?_
  intro p e s m args below meth c s₁ B hml hv
  obtain ⟨rfl, hE, hLo, hWd⟩ := hv
  have hr : meth.sig.returnType = none := B.returns
  have C : Cx l g p s m meth c cX12_blastLine 4 RX12 := ⟨B.exec, B.bytes, hml, findClass_of_methodNamed B.named, hE, hLo, B.notSynchronized⟩
  have S : S2 g s σ R L s.heap [] := ⟨hWd, va_S.rf⟩
  have hx := C.1
  have hb := C.2.1
  have hl := lv_entry ([.ref (gb g + x0)]) (n := 4) (Nat.le_of_ble_eq_true rfl)
  rw [lg_entry_eq]
  generalize (lg_sl ([.ref (gb g + x0)]) ++ List.replicate (4 - (lg_sl ([.ref (gb g + x0)])).length) Slot.unset).toArray = ls at hl ⊢
  have hl : lv_has ls 4 [(0, .ref (gb g + x0))] := hl
  generalize hH : s.heap = H at S ⊢
  generalize hlc : ([] : List Loc) = locs at S ⊢
  rw [f_X12_blastLine] at h
  refine lv_aload_n hx hb dX12_blastLine_0 rfl (lv_at hl 0 rfl) ?_
  obtain ⟨a1, σ1, hc1, h⟩ := bd_el h
  refine x_callVI C S KX12 hx0 (ok_X12_blasts (L := L) hc1 hSh hx0) ⟨cd_X12_blasts, ni_RX12, ml_RX12_142, in_X12_blasts, sl_X12_blasts⟩ ⟨by decide, by decide⟩ rfl (rm_ok (by decide) (by decide)) hl.1 rfl (Nat.le_of_ble_eq_true rfl) ⟨by decide, by decide⟩ dX12_blastLine_1 (fun H locs S => ?_)
  refine lv_istore_n (lv' := [(1, .int a1), (0, .ref (gb g + x0))]) hx hb dX12_blastLine_4 rfl hl (by decide) rfl (fun ls hl => ?_)
  refine lv_sipush (v := (285 : Int32)) hx hb dX12_blastLine_5 (by decide) ?_
  refine lv_bipush (v := (22 : Int32)) hx hb dX12_blastLine_8 (by decide) ?_
  refine lv_iload_n hx hb dX12_blastLine_10 rfl (lv_at hl 0 rfl) ?_
  refine lv_imul hx hb dX12_blastLine_11 ?_
  refine lv_iadd hx hb dX12_blastLine_12 ?_
  refine lv_istore_n (lv' := [(2, .int ((285 : Int32) + ((22 : Int32) * a1))), (1, .int a1), (0, .ref (gb g + x0))]) hx hb dX12_blastLine_13 rfl hl (by decide) rfl (fun ls hl => ?_)
  refine lv_aload_n hx hb dX12_blastLine_14 rfl (lv_at hl 2 rfl) ?_
  refine lv_sipush (v := (285 : Int32)) hx hb dX12_blastLine_15 (by decide) ?_
  refine lv_bipush (v := (22 : Int32)) hx hb dX12_blastLine_18 (by decide) ?_
  refine lv_iload_n hx hb dX12_blastLine_20 rfl (lv_at hl 1 rfl) ?_
  obtain ⟨a2, σ2, hc2, h⟩ := bd_el h
  refine x_callVV C S KX12 hx0 (ok_X12_name (L := L) hc2 hSh hx0) ⟨cd_X12_name, ni_RX12, ml_RX12_131, in_X12_name, sl_X12_name⟩ ⟨by decide, by decide⟩ rfl (rm_ok (by decide) (by decide)) hl.1 rfl (Nat.le_of_ble_eq_true rfl) ⟨by decide, by decide⟩ dX12_blastLine_21 (fun H locs S => ?_)
  refine lv_aload_n hx hb dX12_blastLine_24 rfl (lv_at hl 2 rfl) ?_
  have hR3 : Ok 194 (R x0 11) 10417 := hSh x0 12 11 10417 hx0.1 rfl
  refine x_getR C S KX12 hx0 11 (by decide) rfl rfl fl_RX12_88 hR3 dX12_blastLine_25 ?_
  refine lv_iload_n hx hb dX12_blastLine_28 rfl (lv_at hl 0 rfl) ?_
  refine lv_bipush (v := (6 : Int32)) hx hb dX12_blastLine_29 (by decide) ?_
  refine lv_iadd hx hb dX12_blastLine_31 ?_
  refine lv_aload_n hx hb dX12_blastLine_32 rfl (lv_at hl 2 rfl) ?_
  refine lv_iconst (v := (0 : Int32)) hx hb dX12_blastLine_33 (by decide) ?_
  refine lv_sipush (v := (999 : Int32)) hx hb dX12_blastLine_34 (by decide) ?_
  obtain ⟨a4, σ4, hc4, h⟩ := bd_el h
  refine x_callVI C S KX12 hx0 (ok_X12_number (L := L) hc4 hSh hx0) ⟨cd_X12_number, ni_RX12, ml_RX12_79, in_X12_number, sl_X12_number⟩ ⟨by decide, by decide⟩ rfl (rm_ok (by decide) (by decide)) hl.1 rfl (Nat.le_of_ble_eq_true rfl) ⟨by decide, by decide⟩ dX12_blastLine_37 (fun H locs S => ?_)
  obtain ⟨hi5, h⟩ := ck_el h
  obtain ⟨σ6, hs6, h⟩ := sq_el h
  refine x_iast (len := 417) C S (by decide) hR3 hi5 dX12_blastLine_40 hs6 (fun H locs S => ?_)
  refine lv_aload_n hx hb dX12_blastLine_41 rfl (lv_at hl 2 rfl) ?_
  have hR7 : Ok 194 (R x0 11) 10417 := hSh x0 12 11 10417 hx0.1 rfl
  refine x_getR C S KX12 hx0 11 (by decide) rfl rfl fl_RX12_88 hR7 dX12_blastLine_42 ?_
  refine lv_iload_n hx hb dX12_blastLine_45 rfl (lv_at hl 0 rfl) ?_
  refine lv_bipush (v := (7 : Int32)) hx hb dX12_blastLine_46 (by decide) ?_
  refine lv_iadd hx hb dX12_blastLine_48 ?_
  refine lv_aload_n hx hb dX12_blastLine_49 rfl (lv_at hl 2 rfl) ?_
  refine lv_iconst (v := (0 : Int32)) hx hb dX12_blastLine_50 (by decide) ?_
  refine lv_sipush (v := (999 : Int32)) hx hb dX12_blastLine_51 (by decide) ?_
  obtain ⟨a8, σ8, hc8, h⟩ := bd_el h
  refine x_callVI C S KX12 hx0 (ok_X12_number (L := L) hc8 hSh hx0) ⟨cd_X12_number, ni_RX12, ml_RX12_79, in_X12_number, sl_X12_number⟩ ⟨by decide, by decide⟩ rfl (rm_ok (by decide) (by decide)) hl.1 rfl (Nat.le_of_ble_eq_true rfl) ⟨by decide, by decide⟩ dX12_blastLine_54 (fun H locs S => ?_)
  obtain ⟨hi9, h⟩ := ck_el h
  obtain ⟨σ10, hs10, h⟩ := sq_el h
  refine x_iast (len := 417) C S (by decide) hR7 hi9 dX12_blastLine_57 hs10 (fun H locs S => ?_)
  refine lv_aload_n hx hb dX12_blastLine_58 rfl (lv_at hl 2 rfl) ?_
  have hR11 : Ok 194 (R x0 11) 10417 := hSh x0 12 11 10417 hx0.1 rfl
  refine x_getR C S KX12 hx0 11 (by decide) rfl rfl fl_RX12_88 hR11 dX12_blastLine_59 ?_
  refine lv_iload_n hx hb dX12_blastLine_62 rfl (lv_at hl 0 rfl) ?_
  refine lv_bipush (v := (8 : Int32)) hx hb dX12_blastLine_63 (by decide) ?_
  refine lv_iadd hx hb dX12_blastLine_65 ?_
  refine lv_aload_n hx hb dX12_blastLine_66 rfl (lv_at hl 2 rfl) ?_
  refine lv_iconst (v := (1 : Int32)) hx hb dX12_blastLine_67 (by decide) ?_
  refine lv_sipush (v := (500 : Int32)) hx hb dX12_blastLine_68 (by decide) ?_
  obtain ⟨a12, σ12, hc12, h⟩ := bd_el h
  refine x_callVI C S KX12 hx0 (ok_X12_number (L := L) hc12 hSh hx0) ⟨cd_X12_number, ni_RX12, ml_RX12_79, in_X12_number, sl_X12_number⟩ ⟨by decide, by decide⟩ rfl (rm_ok (by decide) (by decide)) hl.1 rfl (Nat.le_of_ble_eq_true rfl) ⟨by decide, by decide⟩ dX12_blastLine_71 (fun H locs S => ?_)
  obtain ⟨hi13, h⟩ := ck_el h
  obtain ⟨σ14, hs14, h⟩ := sq_el h
  refine x_iast (len := 417) C S (by decide) hR11 hi13 dX12_blastLine_74 hs14 (fun H locs S => ?_)
  exact w_X12_blastLine_75 C hr hSh N σ14 x0 a1 ((285 : Int32) + ((22 : Int32) * a1)) h hx0 H locs ls S (lv_sub hl [2, 1, 0] rfl)
theorem dX12_startsWith_0 : decode cX12_startsWith 0 = .ok (.aload_n 0, 1) := by decide +kernel
theorem dX12_startsWith_1 : decode cX12_startsWith 1 = .ok (.aload_n 1, 1) := by decide +kernel
theorem dX12_startsWith_2 : decode cX12_startsWith 2 = .ok (.invokevirtual 75, 3) := by decide +kernel
theorem dX12_startsWith_5 : decode cX12_startsWith 5 = .ok (.ifCond .ne 5, 3) := by decide +kernel
theorem dX12_startsWith_8 : decode cX12_startsWith 8 = .ok (.iconst 0, 1) := by decide +kernel
theorem dX12_startsWith_9 : decode cX12_startsWith 9 = .ok (.ireturn, 1) := by decide +kernel
theorem dX12_startsWith_10 : decode cX12_startsWith 10 = .ok (.aload_n 0, 1) := by decide +kernel
theorem dX12_startsWith_11 : decode cX12_startsWith 11 = .ok (.iload_n 2, 1) := by decide +kernel
theorem dX12_startsWith_12 : decode cX12_startsWith 12 = .ok (.iconst 4, 1) := by decide +kernel
theorem dX12_startsWith_13 : decode cX12_startsWith 13 = .ok (.invokevirtual 67, 3) := by decide +kernel
theorem dX12_startsWith_16 : decode cX12_startsWith 16 = .ok (.aload_n 0, 1) := by decide +kernel
theorem dX12_startsWith_17 : decode cX12_startsWith 17 = .ok (.invokevirtual 40, 3) := by decide +kernel
theorem dX12_startsWith_20 : decode cX12_startsWith 20 = .ok (.ifCond .ne 7, 3) := by decide +kernel
theorem dX12_startsWith_23 : decode cX12_startsWith 23 = .ok (.iconst 1, 1) := by decide +kernel
theorem dX12_startsWith_24 : decode cX12_startsWith 24 = .ok (.goto 4, 3) := by decide +kernel
theorem dX12_startsWith_27 : decode cX12_startsWith 27 = .ok (.iconst 0, 1) := by decide +kernel
theorem dX12_startsWith_28 : decode cX12_startsWith 28 = .ok (.ireturn, 1) := by decide +kernel
def f_X12_startsWith (N : Nat) (R : Nat → Nat → Nat) (σ : SI) (x0 : Nat) (x1 : Nat) (x2 : Int32) : Option (Int32 × SI) := bd (f_X12_takesWord N R σ x0 x1) (fun a1 σ1 => if a1 = 0 then (some ((0 : Int32), σ1)) else (bd (f_X12_must N R σ1 x0 x2 (4 : Int32)) (fun _ σ3 => bd (f_X12_hasFailed N R σ3 x0) (fun a4 σ4 => if a4 = 0 then (some ((1 : Int32), σ4)) else (some ((0 : Int32), σ4))))))
set_option maxHeartbeats 4000000 in
set_option maxRecDepth 100000 in
theorem ok_X12_startsWith {l : Launch} {g : GL} {R : Nat → Nat → Nat} {L : Nat → Nat → Int64} {N : Nat} {σ : SI} {x0 : Nat} {x1 : Nat} {x2 : Int32} {r : (Int32 × SI)} (h : f_X12_startsWith N R σ x0 x1 x2 = some r) (hSh : ShR R) (hx0 : Ok 194 x0 12) (hx1 : x1 < 13) : Ct l g 6 yX12_startsWith cX12_startsWith 3 (some .boolean) 194 194 0 0 [.ref (gb g + x0), .ref (gS g x1), .int x2] (mkS σ R L) (PI R L r) := by
  refine Met.ofW (cc := cX12_startsWith) (maxL := 3) (ret := (some .boolean)) (by decide) rfl ?_
  intro p e s m args below meth c s₁ B hml hv
  obtain ⟨rfl, hE, hLo, hWd⟩ := hv
  have hr : meth.sig.returnType = (some .boolean) := B.returns
  have C : Cx l g p s m meth c cX12_startsWith 3 RX12 := ⟨B.exec, B.bytes, hml, findClass_of_methodNamed B.named, hE, hLo, B.notSynchronized⟩
  have S : S2 g s σ R L s.heap [] := ⟨hWd, va_S.rf⟩
  have hx := C.1
  have hb := C.2.1
  have hl := lv_entry ([.ref (gb g + x0), .ref (gS g x1), .int x2]) (n := 3) (Nat.le_of_ble_eq_true rfl)
  rw [lg_entry_eq]
  generalize (lg_sl ([.ref (gb g + x0), .ref (gS g x1), .int x2]) ++ List.replicate (3 - (lg_sl ([.ref (gb g + x0), .ref (gS g x1), .int x2])).length) Slot.unset).toArray = ls at hl ⊢
  have hl : lv_has ls 3 [(0, .ref (gb g + x0)), (1, .ref (gS g x1)), (2, .int x2)] := hl
  generalize hH : s.heap = H at S ⊢
  generalize hlc : ([] : List Loc) = locs at S ⊢
  rw [f_X12_startsWith] at h
  refine lv_aload_n hx hb dX12_startsWith_0 rfl (lv_at hl 0 rfl) ?_
  refine lv_aload_n hx hb dX12_startsWith_1 rfl (lv_at hl 1 rfl) ?_
  obtain ⟨a1, σ1, hc1, h⟩ := bd_el h
  refine x_callVI C S KX12 hx0 (ok_X12_takesWord (L := L) hc1 hSh hx0 hx1) ⟨cd_X12_takesWord, ni_RX12, ml_RX12_75, in_X12_takesWord, sl_X12_takesWord⟩ ⟨by decide, by decide⟩ rfl (rm_ok (by decide) (by decide)) hl.1 rfl (Nat.le_of_ble_eq_true rfl) ⟨by decide, by decide⟩ dX12_startsWith_2 (fun H locs S => ?_)
  refine lv_if_ne (tgt := 10) hx hb dX12_startsWith_5 (by decide) (fun c2 => ?_) (fun c2 => ?_)
  · have h := it_n c2 h
    refine lv_aload_n hx hb dX12_startsWith_10 rfl (lv_at hl 0 rfl) ?_
    refine lv_iload_n hx hb dX12_startsWith_11 rfl (lv_at hl 2 rfl) ?_
    refine lv_iconst (v := (4 : Int32)) hx hb dX12_startsWith_12 (by decide) ?_
    obtain ⟨a3, σ3, hc3, h⟩ := bd_el h
    refine x_callVV C S KX12 hx0 (ok_X12_must (L := L) hc3 hSh hx0) ⟨cd_X12_must, ni_RX12, ml_RX12_67, in_X12_must, sl_X12_must⟩ ⟨by decide, by decide⟩ rfl (rm_ok (by decide) (by decide)) hl.1 rfl (Nat.le_of_ble_eq_true rfl) ⟨by decide, by decide⟩ dX12_startsWith_13 (fun H locs S => ?_)
    refine lv_aload_n hx hb dX12_startsWith_16 rfl (lv_at hl 0 rfl) ?_
    obtain ⟨a4, σ4, hc4, h⟩ := bd_el h
    refine x_callVI C S KX12 hx0 (ok_X12_hasFailed (L := L) hc4 hSh hx0) ⟨cd_X12_hasFailed, ni_RX12, ml_RX12_40, in_X12_hasFailed, sl_X12_hasFailed⟩ ⟨by decide, by decide⟩ rfl (rm_ok (by decide) (by decide)) hl.1 rfl (Nat.le_of_ble_eq_true rfl) ⟨by decide, by decide⟩ dX12_startsWith_17 (fun H locs S => ?_)
    refine lv_if_ne (tgt := 27) hx hb dX12_startsWith_20 (by decide) (fun c5 => ?_) (fun c5 => ?_)
    · have h := it_n c5 h
      refine lv_iconst (v := (0 : Int32)) hx hb dX12_startsWith_27 (by decide) ?_
      exact x_zret C S hr (by decide) h dX12_startsWith_28
    · have h := it_p c5 h
      refine lv_iconst (v := (1 : Int32)) hx hb dX12_startsWith_23 (by decide) ?_
      refine lv_goto (tgt := 28) hx hb dX12_startsWith_24 (by decide) ?_
      exact x_zret C S hr (by decide) h dX12_startsWith_28
  · have h := it_p c2 h
    refine lv_iconst (v := (0 : Int32)) hx hb dX12_startsWith_8 (by decide) ?_
    exact x_zret C S hr (by decide) h dX12_startsWith_9
theorem dX12_line_0 : decode cX12_line 0 = .ok (.aload_n 0, 1) := by decide +kernel
theorem dX12_line_1 : decode cX12_line 1 = .ok (.ldc 147, 2) := by decide +kernel
theorem dX12_line_3 : decode cX12_line 3 = .ok (.iconst 1, 1) := by decide +kernel
theorem dX12_line_4 : decode cX12_line 4 = .ok (.invokevirtual 149, 3) := by decide +kernel
theorem dX12_line_7 : decode cX12_line 7 = .ok (.ifCond .eq 10, 3) := by decide +kernel
theorem dX12_line_10 : decode cX12_line 10 = .ok (.aload_n 0, 1) := by decide +kernel
theorem dX12_line_11 : decode cX12_line 11 = .ok (.invokevirtual 153, 3) := by decide +kernel
theorem dX12_line_14 : decode cX12_line 14 = .ok (.goto 223, 3) := by decide +kernel
theorem dX12_line_17 : decode cX12_line 17 = .ok (.aload_n 0, 1) := by decide +kernel
theorem dX12_line_18 : decode cX12_line 18 = .ok (.ldc 156, 2) := by decide +kernel
theorem dX12_line_20 : decode cX12_line 20 = .ok (.iconst 1, 1) := by decide +kernel
theorem dX12_line_21 : decode cX12_line 21 = .ok (.invokevirtual 149, 3) := by decide +kernel
theorem dX12_line_24 : decode cX12_line 24 = .ok (.ifCond .eq 20, 3) := by decide +kernel
theorem dX12_line_27 : decode cX12_line 27 = .ok (.aload_n 0, 1) := by decide +kernel
theorem dX12_line_28 : decode cX12_line 28 = .ok (.getfield 88, 3) := by decide +kernel
theorem dX12_line_31 : decode cX12_line 31 = .ok (.iconst 5, 1) := by decide +kernel
theorem dX12_line_32 : decode cX12_line 32 = .ok (.aload_n 0, 1) := by decide +kernel
theorem dX12_line_33 : decode cX12_line 33 = .ok (.iconst 1, 1) := by decide +kernel
theorem dX12_line_34 : decode cX12_line 34 = .ok (.sipush 240, 3) := by decide +kernel
theorem dX12_line_37 : decode cX12_line 37 = .ok (.invokevirtual 79, 3) := by decide +kernel
theorem dX12_line_40 : decode cX12_line 40 = .ok (.iastore, 1) := by decide +kernel
theorem dX12_line_41 : decode cX12_line 41 = .ok (.goto 196, 3) := by decide +kernel
theorem dX12_line_44 : decode cX12_line 44 = .ok (.aload_n 0, 1) := by decide +kernel
theorem dX12_line_45 : decode cX12_line 45 = .ok (.ldc 158, 2) := by decide +kernel
theorem dX12_line_47 : decode cX12_line 47 = .ok (.iconst 1, 1) := by decide +kernel
theorem dX12_line_48 : decode cX12_line 48 = .ok (.invokevirtual 149, 3) := by decide +kernel
theorem dX12_line_51 : decode cX12_line 51 = .ok (.ifCond .eq 34, 3) := by decide +kernel
theorem dX12_line_54 : decode cX12_line 54 = .ok (.aload_n 0, 1) := by decide +kernel
theorem dX12_line_55 : decode cX12_line 55 = .ok (.getfield 88, 3) := by decide +kernel
theorem dX12_line_58 : decode cX12_line 58 = .ok (.bipush 6, 2) := by decide +kernel
theorem dX12_line_60 : decode cX12_line 60 = .ok (.aload_n 0, 1) := by decide +kernel
theorem dX12_line_61 : decode cX12_line 61 = .ok (.iconst 0, 1) := by decide +kernel
theorem dX12_line_62 : decode cX12_line 62 = .ok (.bipush 60, 2) := by decide +kernel
theorem dX12_line_64 : decode cX12_line 64 = .ok (.invokevirtual 79, 3) := by decide +kernel
theorem dX12_line_67 : decode cX12_line 67 = .ok (.iastore, 1) := by decide +kernel
theorem dX12_line_68 : decode cX12_line 68 = .ok (.aload_n 0, 1) := by decide +kernel
theorem dX12_line_69 : decode cX12_line 69 = .ok (.getfield 88, 3) := by decide +kernel
theorem dX12_line_72 : decode cX12_line 72 = .ok (.bipush 7, 2) := by decide +kernel
theorem dX12_line_74 : decode cX12_line 74 = .ok (.aload_n 0, 1) := by decide +kernel
theorem dX12_line_75 : decode cX12_line 75 = .ok (.iconst 0, 1) := by decide +kernel
theorem dX12_line_76 : decode cX12_line 76 = .ok (.bipush 60, 2) := by decide +kernel
theorem dX12_line_78 : decode cX12_line 78 = .ok (.invokevirtual 79, 3) := by decide +kernel
theorem dX12_line_81 : decode cX12_line 81 = .ok (.iastore, 1) := by decide +kernel
theorem dX12_line_82 : decode cX12_line 82 = .ok (.goto 155, 3) := by decide +kernel
theorem dX12_line_85 : decode cX12_line 85 = .ok (.aload_n 0, 1) := by decide +kernel
theorem dX12_line_86 : decode cX12_line 86 = .ok (.ldc 160, 2) := by decide +kernel
theorem dX12_line_88 : decode cX12_line 88 = .ok (.iconst 1, 1) := by decide +kernel
theorem dX12_line_89 : decode cX12_line 89 = .ok (.invokevirtual 149, 3) := by decide +kernel
theorem dX12_line_92 : decode cX12_line 92 = .ok (.ifCond .eq 21, 3) := by decide +kernel
theorem dX12_line_95 : decode cX12_line 95 = .ok (.aload_n 0, 1) := by decide +kernel
theorem dX12_line_96 : decode cX12_line 96 = .ok (.getfield 88, 3) := by decide +kernel
theorem dX12_line_99 : decode cX12_line 99 = .ok (.bipush 8, 2) := by decide +kernel
theorem dX12_line_101 : decode cX12_line 101 = .ok (.aload_n 0, 1) := by decide +kernel
theorem dX12_line_102 : decode cX12_line 102 = .ok (.iconst 0, 1) := by decide +kernel
theorem dX12_line_103 : decode cX12_line 103 = .ok (.sipush 240, 3) := by decide +kernel
theorem dX12_line_106 : decode cX12_line 106 = .ok (.invokevirtual 79, 3) := by decide +kernel
theorem dX12_line_109 : decode cX12_line 109 = .ok (.iastore, 1) := by decide +kernel
theorem dX12_line_110 : decode cX12_line 110 = .ok (.goto 127, 3) := by decide +kernel
theorem dX12_line_113 : decode cX12_line 113 = .ok (.aload_n 0, 1) := by decide +kernel
theorem dX12_line_114 : decode cX12_line 114 = .ok (.ldc 162, 2) := by decide +kernel
theorem dX12_line_116 : decode cX12_line 116 = .ok (.iconst 1, 1) := by decide +kernel
theorem dX12_line_117 : decode cX12_line 117 = .ok (.invokevirtual 149, 3) := by decide +kernel
theorem dX12_line_120 : decode cX12_line 120 = .ok (.ifCond .eq 10, 3) := by decide +kernel
theorem dX12_line_123 : decode cX12_line 123 = .ok (.aload_n 0, 1) := by decide +kernel
theorem dX12_line_124 : decode cX12_line 124 = .ok (.invokevirtual 164, 3) := by decide +kernel
theorem dX12_line_127 : decode cX12_line 127 = .ok (.goto 110, 3) := by decide +kernel
theorem dX12_line_130 : decode cX12_line 130 = .ok (.aload_n 0, 1) := by decide +kernel
theorem dX12_line_131 : decode cX12_line 131 = .ok (.ldc 167, 2) := by decide +kernel
theorem dX12_line_133 : decode cX12_line 133 = .ok (.aload_n 0, 1) := by decide +kernel
theorem dX12_line_134 : decode cX12_line 134 = .ok (.getfield 88, 3) := by decide +kernel
theorem dX12_line_137 : decode cX12_line 137 = .ok (.iconst 0, 1) := by decide +kernel
theorem dX12_line_138 : decode cX12_line 138 = .ok (.iaload, 1) := by decide +kernel
theorem dX12_line_139 : decode cX12_line 139 = .ok (.bipush 8, 2) := by decide +kernel
theorem dX12_line_141 : decode cX12_line 141 = .ok (.if_icmp .ge 7, 3) := by decide +kernel
theorem dX12_line_144 : decode cX12_line 144 = .ok (.iconst 1, 1) := by decide +kernel
theorem dX12_line_145 : decode cX12_line 145 = .ok (.goto 4, 3) := by decide +kernel
theorem dX12_line_148 : decode cX12_line 148 = .ok (.iconst 0, 1) := by decide +kernel
theorem dX12_line_149 : decode cX12_line 149 = .ok (.invokevirtual 149, 3) := by decide +kernel
theorem dX12_line_152 : decode cX12_line 152 = .ok (.ifCond .eq 10, 3) := by decide +kernel
theorem dX12_line_155 : decode cX12_line 155 = .ok (.aload_n 0, 1) := by decide +kernel
theorem dX12_line_156 : decode cX12_line 156 = .ok (.invokevirtual 169, 3) := by decide +kernel
theorem dX12_line_159 : decode cX12_line 159 = .ok (.goto 78, 3) := by decide +kernel
theorem dX12_line_162 : decode cX12_line 162 = .ok (.aload_n 0, 1) := by decide +kernel
theorem dX12_line_163 : decode cX12_line 163 = .ok (.ldc 172, 2) := by decide +kernel
theorem dX12_line_165 : decode cX12_line 165 = .ok (.aload_n 0, 1) := by decide +kernel
theorem dX12_line_166 : decode cX12_line 166 = .ok (.getfield 88, 3) := by decide +kernel
theorem dX12_line_169 : decode cX12_line 169 = .ok (.iconst 1, 1) := by decide +kernel
theorem dX12_line_170 : decode cX12_line 170 = .ok (.iaload, 1) := by decide +kernel
theorem dX12_line_171 : decode cX12_line 171 = .ok (.bipush 6, 2) := by decide +kernel
theorem dX12_line_173 : decode cX12_line 173 = .ok (.if_icmp .ge 7, 3) := by decide +kernel
theorem dX12_line_176 : decode cX12_line 176 = .ok (.iconst 1, 1) := by decide +kernel
theorem dX12_line_177 : decode cX12_line 177 = .ok (.goto 4, 3) := by decide +kernel
theorem dX12_line_180 : decode cX12_line 180 = .ok (.iconst 0, 1) := by decide +kernel
theorem dX12_line_181 : decode cX12_line 181 = .ok (.invokevirtual 149, 3) := by decide +kernel
theorem dX12_line_184 : decode cX12_line 184 = .ok (.ifCond .eq 10, 3) := by decide +kernel
theorem dX12_line_187 : decode cX12_line 187 = .ok (.aload_n 0, 1) := by decide +kernel
theorem dX12_line_188 : decode cX12_line 188 = .ok (.invokevirtual 174, 3) := by decide +kernel
theorem dX12_line_191 : decode cX12_line 191 = .ok (.goto 46, 3) := by decide +kernel
theorem dX12_line_194 : decode cX12_line 194 = .ok (.aload_n 0, 1) := by decide +kernel
theorem dX12_line_195 : decode cX12_line 195 = .ok (.ldc 177, 2) := by decide +kernel
theorem dX12_line_197 : decode cX12_line 197 = .ok (.aload_n 0, 1) := by decide +kernel
theorem dX12_line_198 : decode cX12_line 198 = .ok (.invokevirtual 142, 3) := by decide +kernel
theorem dX12_line_201 : decode cX12_line 201 = .ok (.bipush 6, 2) := by decide +kernel
theorem dX12_line_203 : decode cX12_line 203 = .ok (.if_icmp .ge 7, 3) := by decide +kernel
theorem dX12_line_206 : decode cX12_line 206 = .ok (.iconst 1, 1) := by decide +kernel
theorem dX12_line_207 : decode cX12_line 207 = .ok (.goto 4, 3) := by decide +kernel
theorem dX12_line_210 : decode cX12_line 210 = .ok (.iconst 0, 1) := by decide +kernel
theorem dX12_line_211 : decode cX12_line 211 = .ok (.invokevirtual 149, 3) := by decide +kernel
theorem dX12_line_214 : decode cX12_line 214 = .ok (.ifCond .eq 10, 3) := by decide +kernel
theorem dX12_line_217 : decode cX12_line 217 = .ok (.aload_n 0, 1) := by decide +kernel
theorem dX12_line_218 : decode cX12_line 218 = .ok (.invokevirtual 179, 3) := by decide +kernel
theorem dX12_line_221 : decode cX12_line 221 = .ok (.goto 16, 3) := by decide +kernel
theorem dX12_line_224 : decode cX12_line 224 = .ok (.aload_n 0, 1) := by decide +kernel
theorem dX12_line_225 : decode cX12_line 225 = .ok (.invokevirtual 40, 3) := by decide +kernel
theorem dX12_line_228 : decode cX12_line 228 = .ok (.ifCond .ne 9, 3) := by decide +kernel
theorem dX12_line_231 : decode cX12_line 231 = .ok (.aload_n 0, 1) := by decide +kernel
theorem dX12_line_232 : decode cX12_line 232 = .ok (.iconst 0, 1) := by decide +kernel
theorem dX12_line_233 : decode cX12_line 233 = .ok (.iconst 1, 1) := by decide +kernel
theorem dX12_line_234 : decode cX12_line 234 = .ok (.invokevirtual 67, 3) := by decide +kernel
theorem dX12_line_237 : decode cX12_line 237 = .ok (.aload_n 0, 1) := by decide +kernel
theorem dX12_line_238 : decode cX12_line 238 = .ok (.invokevirtual 40, 3) := by decide +kernel
theorem dX12_line_241 : decode cX12_line 241 = .ok (.ifCond .eq 4, 3) := by decide +kernel
theorem dX12_line_244 : decode cX12_line 244 = .ok (.return_, 1) := by decide +kernel
theorem dX12_line_245 : decode cX12_line 245 = .ok (.aload_n 0, 1) := by decide +kernel
theorem dX12_line_246 : decode cX12_line 246 = .ok (.invokevirtual 47, 3) := by decide +kernel
theorem dX12_line_249 : decode cX12_line 249 = .ok (.aload_n 0, 1) := by decide +kernel
theorem dX12_line_250 : decode cX12_line 250 = .ok (.aload_n 0, 1) := by decide +kernel
theorem dX12_line_251 : decode cX12_line 251 = .ok (.bipush 59, 2) := by decide +kernel
theorem dX12_line_253 : decode cX12_line 253 = .ok (.bipush 59, 2) := by decide +kernel
theorem dX12_line_255 : decode cX12_line 255 = .ok (.invokevirtual 33, 3) := by decide +kernel
theorem dX12_line_258 : decode cX12_line 258 = .ok (.iconst 1, 1) := by decide +kernel
theorem dX12_line_259 : decode cX12_line 259 = .ok (.invokevirtual 67, 3) := by decide +kernel
theorem dX12_line_262 : decode cX12_line 262 = .ok (.aload_n 0, 1) := by decide +kernel
theorem dX12_line_263 : decode cX12_line 263 = .ok (.dup, 1) := by decide +kernel
theorem dX12_line_264 : decode cX12_line 264 = .ok (.getfield 27, 3) := by decide +kernel
theorem dX12_line_267 : decode cX12_line 267 = .ok (.iconst 1, 1) := by decide +kernel
theorem dX12_line_268 : decode cX12_line 268 = .ok (.iadd, 1) := by decide +kernel
theorem dX12_line_269 : decode cX12_line 269 = .ok (.putfield 27, 3) := by decide +kernel
theorem dX12_line_272 : decode cX12_line 272 = .ok (.return_, 1) := by decide +kernel
def f_X12_line_237 (N : Nat) (R : Nat → Nat → Nat) (σ : SI) (x0 : Nat) : Option (Unit × SI) := bd (f_X12_hasFailed N R σ x0) (fun a27 σ27 => if a27 = 0 then (bd (f_X12_blanks N R σ27 x0) (fun _ σ29 => bd (f_X12_isAt N R σ29 x0 (59 : Int32) (59 : Int32)) (fun a30 σ30 => bd (f_X12_must N R σ30 x0 a30 (1 : Int32)) (fun _ σ31 => sq (up σ31 x0 4 ((σ31 x0 4) + (1 : Int32))) (fun σ32 => some ((), σ32)))))) else (some ((), σ27)))
def f_X12_line (N : Nat) (R : Nat → Nat → Nat) (σ : SI) (x0 : Nat) : Option (Unit × SI) := bd (f_X12_startsWith N R σ x0 5 (1 : Int32)) (fun a1 σ1 => if a1 = 0 then (bd (f_X12_startsWith N R σ1 x0 6 (1 : Int32)) (fun a3 σ3 => if a3 = 0 then (bd (f_X12_startsWith N R σ3 x0 7 (1 : Int32)) (fun a5 σ5 => if a5 = 0 then (bd (f_X12_startsWith N R σ5 x0 8 (1 : Int32)) (fun a7 σ7 => if a7 = 0 then (bd (f_X12_startsWith N R σ7 x0 9 (1 : Int32)) (fun a9 σ9 => if a9 = 0 then (ck (0 : Int32) 417 (if (8 : Int32) ≤ (σ9 (R x0 11) (0 : Int32).toNatClampNeg) then (bd (f_X12_startsWith N R σ9 x0 0 (0 : Int32)) (fun a14 σ14 => if a14 = 0 then (ck (1 : Int32) 417 (if (6 : Int32) ≤ (σ14 (R x0 11) (1 : Int32).toNatClampNeg) then (bd (f_X12_startsWith N R σ14 x0 2 (0 : Int32)) (fun a19 σ19 => if a19 = 0 then (bd (f_X12_blasts N R σ19 x0) (fun a21 σ21 => if (6 : Int32) ≤ a21 then (bd (f_X12_startsWith N R σ21 x0 3 (0 : Int32)) (fun a23 σ23 => if a23 = 0 then (bd (f_X12_hasFailed N R σ23 x0) (fun a25 σ25 => if a25 = 0 then (bd (f_X12_must N R σ25 x0 (0 : Int32) (1 : Int32)) (fun _ σ33 => f_X12_line_237 N R σ33 x0)) else (f_X12_line_237 N R σ25 x0))) else (bd (f_X12_blastLine N R σ23 x0) (fun _ σ34 => f_X12_line_237 N R σ34 x0)))) else (bd (f_X12_startsWith N R σ21 x0 3 (1 : Int32)) (fun a35 σ35 => if a35 = 0 then (bd (f_X12_hasFailed N R σ35 x0) (fun a37 σ37 => if a37 = 0 then (bd (f_X12_must N R σ37 x0 (0 : Int32) (1 : Int32)) (fun _ σ39 => f_X12_line_237 N R σ39 x0)) else (f_X12_line_237 N R σ37 x0))) else (bd (f_X12_blastLine N R σ35 x0) (fun _ σ40 => f_X12_line_237 N R σ40 x0)))))) else (bd (f_X12_roadLine N R σ19 x0) (fun _ σ41 => f_X12_line_237 N R σ41 x0)))) else (bd (f_X12_startsWith N R σ14 x0 2 (1 : Int32)) (fun a42 σ42 => if a42 = 0 then (bd (f_X12_blasts N R σ42 x0) (fun a44 σ44 => if (6 : Int32) ≤ a44 then (bd (f_X12_startsWith N R σ44 x0 3 (0 : Int32)) (fun a46 σ46 => if a46 = 0 then (bd (f_X12_hasFailed N R σ46 x0) (fun a48 σ48 => if a48 = 0 then (bd (f_X12_must N R σ48 x0 (0 : Int32) (1 : Int32)) (fun _ σ50 => f_X12_line_237 N R σ50 x0)) else (f_X12_line_237 N R σ48 x0))) else (bd (f_X12_blastLine N R σ46 x0) (fun _ σ51 => f_X12_line_237 N R σ51 x0)))) else (bd (f_X12_startsWith N R σ44 x0 3 (1 : Int32)) (fun a52 σ52 => if a52 = 0 then (bd (f_X12_hasFailed N R σ52 x0) (fun a54 σ54 => if a54 = 0 then (bd (f_X12_must N R σ54 x0 (0 : Int32) (1 : Int32)) (fun _ σ56 => f_X12_line_237 N R σ56 x0)) else (f_X12_line_237 N R σ54 x0))) else (bd (f_X12_blastLine N R σ52 x0) (fun _ σ57 => f_X12_line_237 N R σ57 x0)))))) else (bd (f_X12_roadLine N R σ42 x0) (fun _ σ58 => f_X12_line_237 N R σ58 x0)))))) else (bd (f_X12_nearLine N R σ14 x0) (fun _ σ59 => f_X12_line_237 N R σ59 x0)))) else (bd (f_X12_startsWith N R σ9 x0 0 (1 : Int32)) (fun a60 σ60 => if a60 = 0 then (ck (1 : Int32) 417 (if (6 : Int32) ≤ (σ60 (R x0 11) (1 : Int32).toNatClampNeg) then (bd (f_X12_startsWith N R σ60 x0 2 (0 : Int32)) (fun a65 σ65 => if a65 = 0 then (bd (f_X12_blasts N R σ65 x0) (fun a67 σ67 => if (6 : Int32) ≤ a67 then (bd (f_X12_startsWith N R σ67 x0 3 (0 : Int32)) (fun a69 σ69 => if a69 = 0 then (bd (f_X12_hasFailed N R σ69 x0) (fun a71 σ71 => if a71 = 0 then (bd (f_X12_must N R σ71 x0 (0 : Int32) (1 : Int32)) (fun _ σ73 => f_X12_line_237 N R σ73 x0)) else (f_X12_line_237 N R σ71 x0))) else (bd (f_X12_blastLine N R σ69 x0) (fun _ σ74 => f_X12_line_237 N R σ74 x0)))) else (bd (f_X12_startsWith N R σ67 x0 3 (1 : Int32)) (fun a75 σ75 => if a75 = 0 then (bd (f_X12_hasFailed N R σ75 x0) (fun a77 σ77 => if a77 = 0 then (bd (f_X12_must N R σ77 x0 (0 : Int32) (1 : Int32)) (fun _ σ79 => f_X12_line_237 N R σ79 x0)) else (f_X12_line_237 N R σ77 x0))) else (bd (f_X12_blastLine N R σ75 x0) (fun _ σ80 => f_X12_line_237 N R σ80 x0)))))) else (bd (f_X12_roadLine N R σ65 x0) (fun _ σ81 => f_X12_line_237 N R σ81 x0)))) else (bd (f_X12_startsWith N R σ60 x0 2 (1 : Int32)) (fun a82 σ82 => if a82 = 0 then (bd (f_X12_blasts N R σ82 x0) (fun a84 σ84 => if (6 : Int32) ≤ a84 then (bd (f_X12_startsWith N R σ84 x0 3 (0 : Int32)) (fun a86 σ86 => if a86 = 0 then (bd (f_X12_hasFailed N R σ86 x0) (fun a88 σ88 => if a88 = 0 then (bd (f_X12_must N R σ88 x0 (0 : Int32) (1 : Int32)) (fun _ σ90 => f_X12_line_237 N R σ90 x0)) else (f_X12_line_237 N R σ88 x0))) else (bd (f_X12_blastLine N R σ86 x0) (fun _ σ91 => f_X12_line_237 N R σ91 x0)))) else (bd (f_X12_startsWith N R σ84 x0 3 (1 : Int32)) (fun a92 σ92 => if a92 = 0 then (bd (f_X12_hasFailed N R σ92 x0) (fun a94 σ94 => if a94 = 0 then (bd (f_X12_must N R σ94 x0 (0 : Int32) (1 : Int32)) (fun _ σ96 => f_X12_line_237 N R σ96 x0)) else (f_X12_line_237 N R σ94 x0))) else (bd (f_X12_blastLine N R σ92 x0) (fun _ σ97 => f_X12_line_237 N R σ97 x0)))))) else (bd (f_X12_roadLine N R σ82 x0) (fun _ σ98 => f_X12_line_237 N R σ98 x0)))))) else (bd (f_X12_nearLine N R σ60 x0) (fun _ σ99 => f_X12_line_237 N R σ99 x0)))))) else (bd (f_X12_windLine N R σ9 x0) (fun _ σ100 => f_X12_line_237 N R σ100 x0)))) else (bd (f_X12_number N R σ7 x0 (0 : Int32) (240 : Int32)) (fun a102 σ102 => ck (8 : Int32) 417 (sq (up σ102 (R x0 11) (8 : Int32).toNatClampNeg a102) (fun σ104 => f_X12_line_237 N R σ104 x0)))))) else (bd (f_X12_number N R σ5 x0 (0 : Int32) (60 : Int32)) (fun a106 σ106 => ck (6 : Int32) 417 (sq (up σ106 (R x0 11) (6 : Int32).toNatClampNeg a106) (fun σ108 => bd (f_X12_number N R σ108 x0 (0 : Int32) (60 : Int32)) (fun a110 σ110 => ck (7 : Int32) 417 (sq (up σ110 (R x0 11) (7 : Int32).toNatClampNeg a110) (fun σ112 => f_X12_line_237 N R σ112 x0))))))))) else (bd (f_X12_number N R σ3 x0 (1 : Int32) (240 : Int32)) (fun a114 σ114 => ck (5 : Int32) 417 (sq (up σ114 (R x0 11) (5 : Int32).toNatClampNeg a114) (fun σ116 => f_X12_line_237 N R σ116 x0)))))) else (bd (f_X12_dayLine N R σ1 x0) (fun _ σ117 => f_X12_line_237 N R σ117 x0)))
set_option maxHeartbeats 4000000 in
set_option maxRecDepth 100000 in
theorem w_X12_line_237 {l : Launch} {g : GL} {p : Program} {e : Jvm.Env} {s : State} {m : MethodId} {args : Array Value} {below : List Frame} {meth : Method} {c : Code} {R : Nat → Nat → Nat} {L : Nat → Nat → Int64} {r : (Unit × SI)} {N : Nat} (C : Cx l g p s m meth c cX12_line 1 RX12) (hr : meth.sig.returnType = none) (hSh : ShR R) : ∀ (σ : SI) (x0 : Nat), f_X12_line_237 N R σ x0 = some r → Ok 194 x0 12 → ∀ (H : Heap) (locs : List Loc) (ls : Array Slot), S2 g s σ R L H locs → lv_has ls 1 [(0, .ref (gb g + x0))] → W p l e (rmd 8 0 0) s m args below meth c H locs 0 0 (MQ below (Qg g 194 (PV R L r)) args s 0 0 (gA g)) (F0 m 237 ls []) := by
  have hx := C.1
  have hb := C.2.1
  intro σ x0 h hx0 H locs ls S hl
  rw [f_X12_line_237] at h
  refine lv_aload_n hx hb dX12_line_237 rfl (lv_at hl 0 rfl) ?_
  obtain ⟨a27, σ27, hc27, h⟩ := bd_el h
  refine x_callVI C S KX12 hx0 (ok_X12_hasFailed (L := L) hc27 hSh hx0) ⟨cd_X12_hasFailed, ni_RX12, ml_RX12_40, in_X12_hasFailed, sl_X12_hasFailed⟩ ⟨by decide, by decide⟩ rfl (rm_ok (by decide) (by decide)) hl.1 rfl (Nat.le_of_ble_eq_true rfl) ⟨by decide, by decide⟩ dX12_line_238 (fun H locs S => ?_)
  refine lv_if_eq (tgt := 245) hx hb dX12_line_241 (by decide) (fun c28 => ?_) (fun c28 => ?_)
  · have h := it_p c28 h
    refine lv_aload_n hx hb dX12_line_245 rfl (lv_at hl 0 rfl) ?_
    obtain ⟨a29, σ29, hc29, h⟩ := bd_el h
    refine x_callVV C S KX12 hx0 (ok_X12_blanks (L := L) hc29 hSh hx0) ⟨cd_X12_blanks, ni_RX12, ml_RX12_47, in_X12_blanks, sl_X12_blanks⟩ ⟨by decide, by decide⟩ rfl (rm_ok (by decide) (by decide)) hl.1 rfl (Nat.le_of_ble_eq_true rfl) ⟨by decide, by decide⟩ dX12_line_246 (fun H locs S => ?_)
    refine lv_aload_n hx hb dX12_line_249 rfl (lv_at hl 0 rfl) ?_
    refine lv_aload_n hx hb dX12_line_250 rfl (lv_at hl 0 rfl) ?_
    refine lv_bipush (v := (59 : Int32)) hx hb dX12_line_251 (by decide) ?_
    refine lv_bipush (v := (59 : Int32)) hx hb dX12_line_253 (by decide) ?_
    obtain ⟨a30, σ30, hc30, h⟩ := bd_el h
    refine x_callVI C S KX12 hx0 (ok_X12_isAt (L := L) hc30 hSh hx0) ⟨cd_X12_isAt, ni_RX12, ml_RX12_33, in_X12_isAt, sl_X12_isAt⟩ ⟨by decide, by decide⟩ rfl (rm_ok (by decide) (by decide)) hl.1 rfl (Nat.le_of_ble_eq_true rfl) ⟨by decide, by decide⟩ dX12_line_255 (fun H locs S => ?_)
    refine lv_iconst (v := (1 : Int32)) hx hb dX12_line_258 (by decide) ?_
    obtain ⟨a31, σ31, hc31, h⟩ := bd_el h
    refine x_callVV C S KX12 hx0 (ok_X12_must (L := L) hc31 hSh hx0) ⟨cd_X12_must, ni_RX12, ml_RX12_67, in_X12_must, sl_X12_must⟩ ⟨by decide, by decide⟩ rfl (rm_ok (by decide) (by decide)) hl.1 rfl (Nat.le_of_ble_eq_true rfl) ⟨by decide, by decide⟩ dX12_line_259 (fun H locs S => ?_)
    refine lv_aload_n hx hb dX12_line_262 rfl (lv_at hl 0 rfl) ?_
    refine lv_dup hx hb dX12_line_263 rfl ?_
    refine x_getI C S KX12 hx0 4 (by decide) rfl rfl fl_RX12_27 dX12_line_264 ?_
    refine lv_iconst (v := (1 : Int32)) hx hb dX12_line_267 (by decide) ?_
    refine lv_iadd hx hb dX12_line_268 ?_
    obtain ⟨σ32, hs32, h⟩ := sq_el h
    refine x_putI C S KX12 hx0 4 (by decide) rfl rfl rfl ⟨rfl, rfl⟩ fl_RX12_27 dX12_line_269 hs32 (fun H locs S => ?_)
    exact x_vret C S hr h dX12_line_272
  · have h := it_n c28 h
    exact x_vret C S hr h dX12_line_244
set_option maxHeartbeats 4000000 in
set_option maxRecDepth 100000 in
theorem ok_X12_line {l : Launch} {g : GL} {R : Nat → Nat → Nat} {L : Nat → Nat → Int64} {N : Nat} {σ : SI} {x0 : Nat} {r : (Unit × SI)} (h : f_X12_line N R σ x0 = some r) (hSh : ShR R) (hx0 : Ok 194 x0 12) : Ct l g 8 yX12_line cX12_line 1 none 194 194 0 0 [.ref (gb g + x0)] (mkS σ R L) (PV R L r) := by
  refine Met.ofW (cc := cX12_line) (maxL := 1) (ret := none) (by decide) rfl ?_
  intro p e s m args below meth c s₁ B hml hv
  obtain ⟨rfl, hE, hLo, hWd⟩ := hv
  have hr : meth.sig.returnType = none := B.returns
  have C : Cx l g p s m meth c cX12_line 1 RX12 := ⟨B.exec, B.bytes, hml, findClass_of_methodNamed B.named, hE, hLo, B.notSynchronized⟩
  have S : S2 g s σ R L s.heap [] := ⟨hWd, va_S.rf⟩
  have hx := C.1
  have hb := C.2.1
  have hl := lv_entry ([.ref (gb g + x0)]) (n := 1) (Nat.le_of_ble_eq_true rfl)
  rw [lg_entry_eq]
  generalize (lg_sl ([.ref (gb g + x0)]) ++ List.replicate (1 - (lg_sl ([.ref (gb g + x0)])).length) Slot.unset).toArray = ls at hl ⊢
  have hl : lv_has ls 1 [(0, .ref (gb g + x0))] := hl
  generalize hH : s.heap = H at S ⊢
  generalize hlc : ([] : List Loc) = locs at S ⊢
  rw [f_X12_line] at h
  refine lv_aload_n hx hb dX12_line_0 rfl (lv_at hl 0 rfl) ?_
  refine x_ldcs C (k := 147) (tx := "day") (ia := 5) (by decide) dX12_line_1 ?_
  refine lv_iconst (v := (1 : Int32)) hx hb dX12_line_3 (by decide) ?_
  obtain ⟨a1, σ1, hc1, h⟩ := bd_el h
  refine x_callVI C S KX12 hx0 (ok_X12_startsWith (L := L) hc1 hSh hx0 (by decide)) ⟨cd_X12_startsWith, ni_RX12, ml_RX12_149, in_X12_startsWith, sl_X12_startsWith⟩ ⟨by decide, by decide⟩ rfl (rm_ok (by decide) (by decide)) hl.1 rfl (Nat.le_of_ble_eq_true rfl) ⟨by decide, by decide⟩ dX12_line_4 (fun H locs S => ?_)
  refine lv_if_eq (tgt := 17) hx hb dX12_line_7 (by decide) (fun c2 => ?_) (fun c2 => ?_)
  · have h := it_p c2 h
    refine lv_aload_n hx hb dX12_line_17 rfl (lv_at hl 0 rfl) ?_
    refine x_ldcs C (k := 156) (tx := "step") (ia := 6) (by decide) dX12_line_18 ?_
    refine lv_iconst (v := (1 : Int32)) hx hb dX12_line_20 (by decide) ?_
    obtain ⟨a3, σ3, hc3, h⟩ := bd_el h
    refine x_callVI C S KX12 hx0 (ok_X12_startsWith (L := L) hc3 hSh hx0 (by decide)) ⟨cd_X12_startsWith, ni_RX12, ml_RX12_149, in_X12_startsWith, sl_X12_startsWith⟩ ⟨by decide, by decide⟩ rfl (rm_ok (by decide) (by decide)) hl.1 rfl (Nat.le_of_ble_eq_true rfl) ⟨by decide, by decide⟩ dX12_line_21 (fun H locs S => ?_)
    refine lv_if_eq (tgt := 44) hx hb dX12_line_24 (by decide) (fun c4 => ?_) (fun c4 => ?_)
    · have h := it_p c4 h
      refine lv_aload_n hx hb dX12_line_44 rfl (lv_at hl 0 rfl) ?_
      refine x_ldcs C (k := 158) (tx := "close") (ia := 7) (by decide) dX12_line_45 ?_
      refine lv_iconst (v := (1 : Int32)) hx hb dX12_line_47 (by decide) ?_
      obtain ⟨a5, σ5, hc5, h⟩ := bd_el h
      refine x_callVI C S KX12 hx0 (ok_X12_startsWith (L := L) hc5 hSh hx0 (by decide)) ⟨cd_X12_startsWith, ni_RX12, ml_RX12_149, in_X12_startsWith, sl_X12_startsWith⟩ ⟨by decide, by decide⟩ rfl (rm_ok (by decide) (by decide)) hl.1 rfl (Nat.le_of_ble_eq_true rfl) ⟨by decide, by decide⟩ dX12_line_48 (fun H locs S => ?_)
      refine lv_if_eq (tgt := 85) hx hb dX12_line_51 (by decide) (fun c6 => ?_) (fun c6 => ?_)
      · have h := it_p c6 h
        refine lv_aload_n hx hb dX12_line_85 rfl (lv_at hl 0 rfl) ?_
        refine x_ldcs C (k := 160) (tx := "space") (ia := 8) (by decide) dX12_line_86 ?_
        refine lv_iconst (v := (1 : Int32)) hx hb dX12_line_88 (by decide) ?_
        obtain ⟨a7, σ7, hc7, h⟩ := bd_el h
        refine x_callVI C S KX12 hx0 (ok_X12_startsWith (L := L) hc7 hSh hx0 (by decide)) ⟨cd_X12_startsWith, ni_RX12, ml_RX12_149, in_X12_startsWith, sl_X12_startsWith⟩ ⟨by decide, by decide⟩ rfl (rm_ok (by decide) (by decide)) hl.1 rfl (Nat.le_of_ble_eq_true rfl) ⟨by decide, by decide⟩ dX12_line_89 (fun H locs S => ?_)
        refine lv_if_eq (tgt := 113) hx hb dX12_line_92 (by decide) (fun c8 => ?_) (fun c8 => ?_)
        · have h := it_p c8 h
          refine lv_aload_n hx hb dX12_line_113 rfl (lv_at hl 0 rfl) ?_
          refine x_ldcs C (k := 162) (tx := "wind") (ia := 9) (by decide) dX12_line_114 ?_
          refine lv_iconst (v := (1 : Int32)) hx hb dX12_line_116 (by decide) ?_
          obtain ⟨a9, σ9, hc9, h⟩ := bd_el h
          refine x_callVI C S KX12 hx0 (ok_X12_startsWith (L := L) hc9 hSh hx0 (by decide)) ⟨cd_X12_startsWith, ni_RX12, ml_RX12_149, in_X12_startsWith, sl_X12_startsWith⟩ ⟨by decide, by decide⟩ rfl (rm_ok (by decide) (by decide)) hl.1 rfl (Nat.le_of_ble_eq_true rfl) ⟨by decide, by decide⟩ dX12_line_117 (fun H locs S => ?_)
          refine lv_if_eq (tgt := 130) hx hb dX12_line_120 (by decide) (fun c10 => ?_) (fun c10 => ?_)
          · have h := it_p c10 h
            refine lv_aload_n hx hb dX12_line_130 rfl (lv_at hl 0 rfl) ?_
            refine x_ldcs C (k := 167) (tx := "near") (ia := 0) (by decide) dX12_line_131 ?_
            refine lv_aload_n hx hb dX12_line_133 rfl (lv_at hl 0 rfl) ?_
            have hR11 : Ok 194 (R x0 11) 10417 := hSh x0 12 11 10417 hx0.1 rfl
            refine x_getR C S KX12 hx0 11 (by decide) rfl rfl fl_RX12_88 hR11 dX12_line_134 ?_
            refine lv_iconst (v := (0 : Int32)) hx hb dX12_line_137 (by decide) ?_
            obtain ⟨hi12, h⟩ := ck_el h
            refine x_iald (len := 417) C S (by decide) hR11 hi12 dX12_line_138 ?_
            refine lv_bipush (v := (8 : Int32)) hx hb dX12_line_139 (by decide) ?_
            refine lv_icmp_ge (tgt := 148) hx hb dX12_line_141 (by decide) (fun c13 => ?_) (fun c13 => ?_)
            · have h := it_p c13 h
              refine lv_iconst (v := (0 : Int32)) hx hb dX12_line_148 (by decide) ?_
              obtain ⟨a14, σ14, hc14, h⟩ := bd_el h
              refine x_callVI C S KX12 hx0 (ok_X12_startsWith (L := L) hc14 hSh hx0 (by decide)) ⟨cd_X12_startsWith, ni_RX12, ml_RX12_149, in_X12_startsWith, sl_X12_startsWith⟩ ⟨by decide, by decide⟩ rfl (rm_ok (by decide) (by decide)) hl.1 rfl (Nat.le_of_ble_eq_true rfl) ⟨by decide, by decide⟩ dX12_line_149 (fun H locs S => ?_)
              refine lv_if_eq (tgt := 162) hx hb dX12_line_152 (by decide) (fun c15 => ?_) (fun c15 => ?_)
              · have h := it_p c15 h
                refine lv_aload_n hx hb dX12_line_162 rfl (lv_at hl 0 rfl) ?_
                refine x_ldcs C (k := 172) (tx := "road") (ia := 2) (by decide) dX12_line_163 ?_
                refine lv_aload_n hx hb dX12_line_165 rfl (lv_at hl 0 rfl) ?_
                have hR16 : Ok 194 (R x0 11) 10417 := hSh x0 12 11 10417 hx0.1 rfl
                refine x_getR C S KX12 hx0 11 (by decide) rfl rfl fl_RX12_88 hR16 dX12_line_166 ?_
                refine lv_iconst (v := (1 : Int32)) hx hb dX12_line_169 (by decide) ?_
                obtain ⟨hi17, h⟩ := ck_el h
                refine x_iald (len := 417) C S (by decide) hR16 hi17 dX12_line_170 ?_
                refine lv_bipush (v := (6 : Int32)) hx hb dX12_line_171 (by decide) ?_
                refine lv_icmp_ge (tgt := 180) hx hb dX12_line_173 (by decide) (fun c18 => ?_) (fun c18 => ?_)
                · have h := it_p c18 h
                  refine lv_iconst (v := (0 : Int32)) hx hb dX12_line_180 (by decide) ?_
                  obtain ⟨a19, σ19, hc19, h⟩ := bd_el h
                  refine x_callVI C S KX12 hx0 (ok_X12_startsWith (L := L) hc19 hSh hx0 (by decide)) ⟨cd_X12_startsWith, ni_RX12, ml_RX12_149, in_X12_startsWith, sl_X12_startsWith⟩ ⟨by decide, by decide⟩ rfl (rm_ok (by decide) (by decide)) hl.1 rfl (Nat.le_of_ble_eq_true rfl) ⟨by decide, by decide⟩ dX12_line_181 (fun H locs S => ?_)
                  refine lv_if_eq (tgt := 194) hx hb dX12_line_184 (by decide) (fun c20 => ?_) (fun c20 => ?_)
                  · have h := it_p c20 h
                    refine lv_aload_n hx hb dX12_line_194 rfl (lv_at hl 0 rfl) ?_
                    refine x_ldcs C (k := 177) (tx := "blast") (ia := 3) (by decide) dX12_line_195 ?_
                    refine lv_aload_n hx hb dX12_line_197 rfl (lv_at hl 0 rfl) ?_
                    obtain ⟨a21, σ21, hc21, h⟩ := bd_el h
                    refine x_callVI C S KX12 hx0 (ok_X12_blasts (L := L) hc21 hSh hx0) ⟨cd_X12_blasts, ni_RX12, ml_RX12_142, in_X12_blasts, sl_X12_blasts⟩ ⟨by decide, by decide⟩ rfl (rm_ok (by decide) (by decide)) hl.1 rfl (Nat.le_of_ble_eq_true rfl) ⟨by decide, by decide⟩ dX12_line_198 (fun H locs S => ?_)
                    refine lv_bipush (v := (6 : Int32)) hx hb dX12_line_201 (by decide) ?_
                    refine lv_icmp_ge (tgt := 210) hx hb dX12_line_203 (by decide) (fun c22 => ?_) (fun c22 => ?_)
                    · have h := it_p c22 h
                      refine lv_iconst (v := (0 : Int32)) hx hb dX12_line_210 (by decide) ?_
                      obtain ⟨a23, σ23, hc23, h⟩ := bd_el h
                      refine x_callVI C S KX12 hx0 (ok_X12_startsWith (L := L) hc23 hSh hx0 (by decide)) ⟨cd_X12_startsWith, ni_RX12, ml_RX12_149, in_X12_startsWith, sl_X12_startsWith⟩ ⟨by decide, by decide⟩ rfl (rm_ok (by decide) (by decide)) hl.1 rfl (Nat.le_of_ble_eq_true rfl) ⟨by decide, by decide⟩ dX12_line_211 (fun H locs S => ?_)
                      refine lv_if_eq (tgt := 224) hx hb dX12_line_214 (by decide) (fun c24 => ?_) (fun c24 => ?_)
                      · have h := it_p c24 h
                        refine lv_aload_n hx hb dX12_line_224 rfl (lv_at hl 0 rfl) ?_
                        obtain ⟨a25, σ25, hc25, h⟩ := bd_el h
                        refine x_callVI C S KX12 hx0 (ok_X12_hasFailed (L := L) hc25 hSh hx0) ⟨cd_X12_hasFailed, ni_RX12, ml_RX12_40, in_X12_hasFailed, sl_X12_hasFailed⟩ ⟨by decide, by decide⟩ rfl (rm_ok (by decide) (by decide)) hl.1 rfl (Nat.le_of_ble_eq_true rfl) ⟨by decide, by decide⟩ dX12_line_225 (fun H locs S => ?_)
                        refine lv_if_ne (tgt := 237) hx hb dX12_line_228 (by decide) (fun c26 => ?_) (fun c26 => ?_)
                        · have h := it_n c26 h
                          exact w_X12_line_237 C hr hSh σ25 x0 h hx0 H locs ls S (lv_sub hl [0] rfl)
                        · have h := it_p c26 h
                          refine lv_aload_n hx hb dX12_line_231 rfl (lv_at hl 0 rfl) ?_
                          refine lv_iconst (v := (0 : Int32)) hx hb dX12_line_232 (by decide) ?_
                          refine lv_iconst (v := (1 : Int32)) hx hb dX12_line_233 (by decide) ?_
                          obtain ⟨a33, σ33, hc33, h⟩ := bd_el h
                          refine x_callVV C S KX12 hx0 (ok_X12_must (L := L) hc33 hSh hx0) ⟨cd_X12_must, ni_RX12, ml_RX12_67, in_X12_must, sl_X12_must⟩ ⟨by decide, by decide⟩ rfl (rm_ok (by decide) (by decide)) hl.1 rfl (Nat.le_of_ble_eq_true rfl) ⟨by decide, by decide⟩ dX12_line_234 (fun H locs S => ?_)
                          exact w_X12_line_237 C hr hSh σ33 x0 h hx0 H locs ls S (lv_sub hl [0] rfl)
                      · have h := it_n c24 h
                        refine lv_aload_n hx hb dX12_line_217 rfl (lv_at hl 0 rfl) ?_
                        obtain ⟨a34, σ34, hc34, h⟩ := bd_el h
                        refine x_callVV C S KX12 hx0 (ok_X12_blastLine (L := L) hc34 hSh hx0) ⟨cd_X12_blastLine, ni_RX12, ml_RX12_179, in_X12_blastLine, sl_X12_blastLine⟩ ⟨by decide, by decide⟩ rfl (rm_ok (by decide) (by decide)) hl.1 rfl (Nat.le_of_ble_eq_true rfl) ⟨by decide, by decide⟩ dX12_line_218 (fun H locs S => ?_)
                        refine lv_goto (tgt := 237) hx hb dX12_line_221 (by decide) ?_
                        exact w_X12_line_237 C hr hSh σ34 x0 h hx0 H locs ls S (lv_sub hl [0] rfl)
                    · have h := it_n c22 h
                      refine lv_iconst (v := (1 : Int32)) hx hb dX12_line_206 (by decide) ?_
                      refine lv_goto (tgt := 211) hx hb dX12_line_207 (by decide) ?_
                      obtain ⟨a35, σ35, hc35, h⟩ := bd_el h
                      refine x_callVI C S KX12 hx0 (ok_X12_startsWith (L := L) hc35 hSh hx0 (by decide)) ⟨cd_X12_startsWith, ni_RX12, ml_RX12_149, in_X12_startsWith, sl_X12_startsWith⟩ ⟨by decide, by decide⟩ rfl (rm_ok (by decide) (by decide)) hl.1 rfl (Nat.le_of_ble_eq_true rfl) ⟨by decide, by decide⟩ dX12_line_211 (fun H locs S => ?_)
                      refine lv_if_eq (tgt := 224) hx hb dX12_line_214 (by decide) (fun c36 => ?_) (fun c36 => ?_)
                      · have h := it_p c36 h
                        refine lv_aload_n hx hb dX12_line_224 rfl (lv_at hl 0 rfl) ?_
                        obtain ⟨a37, σ37, hc37, h⟩ := bd_el h
                        refine x_callVI C S KX12 hx0 (ok_X12_hasFailed (L := L) hc37 hSh hx0) ⟨cd_X12_hasFailed, ni_RX12, ml_RX12_40, in_X12_hasFailed, sl_X12_hasFailed⟩ ⟨by decide, by decide⟩ rfl (rm_ok (by decide) (by decide)) hl.1 rfl (Nat.le_of_ble_eq_true rfl) ⟨by decide, by decide⟩ dX12_line_225 (fun H locs S => ?_)
                        refine lv_if_ne (tgt := 237) hx hb dX12_line_228 (by decide) (fun c38 => ?_) (fun c38 => ?_)
                        · have h := it_n c38 h
                          exact w_X12_line_237 C hr hSh σ37 x0 h hx0 H locs ls S (lv_sub hl [0] rfl)
                        · have h := it_p c38 h
                          refine lv_aload_n hx hb dX12_line_231 rfl (lv_at hl 0 rfl) ?_
                          refine lv_iconst (v := (0 : Int32)) hx hb dX12_line_232 (by decide) ?_
                          refine lv_iconst (v := (1 : Int32)) hx hb dX12_line_233 (by decide) ?_
                          obtain ⟨a39, σ39, hc39, h⟩ := bd_el h
                          refine x_callVV C S KX12 hx0 (ok_X12_must (L := L) hc39 hSh hx0) ⟨cd_X12_must, ni_RX12, ml_RX12_67, in_X12_must, sl_X12_must⟩ ⟨by decide, by decide⟩ rfl (rm_ok (by decide) (by decide)) hl.1 rfl (Nat.le_of_ble_eq_true rfl) ⟨by decide, by decide⟩ dX12_line_234 (fun H locs S => ?_)
                          exact w_X12_line_237 C hr hSh σ39 x0 h hx0 H locs ls S (lv_sub hl [0] rfl)
                      · have h := it_n c36 h
                        refine lv_aload_n hx hb dX12_line_217 rfl (lv_at hl 0 rfl) ?_
                        obtain ⟨a40, σ40, hc40, h⟩ := bd_el h
                        refine x_callVV C S KX12 hx0 (ok_X12_blastLine (L := L) hc40 hSh hx0) ⟨cd_X12_blastLine, ni_RX12, ml_RX12_179, in_X12_blastLine, sl_X12_blastLine⟩ ⟨by decide, by decide⟩ rfl (rm_ok (by decide) (by decide)) hl.1 rfl (Nat.le_of_ble_eq_true rfl) ⟨by decide, by decide⟩ dX12_line_218 (fun H locs S => ?_)
                        refine lv_goto (tgt := 237) hx hb dX12_line_221 (by decide) ?_
                        exact w_X12_line_237 C hr hSh σ40 x0 h hx0 H locs ls S (lv_sub hl [0] rfl)
                  · have h := it_n c20 h
                    refine lv_aload_n hx hb dX12_line_187 rfl (lv_at hl 0 rfl) ?_
                    obtain ⟨a41, σ41, hc41, h⟩ := bd_el h
                    refine x_callVV C S KX12 hx0 (ok_X12_roadLine (L := L) hc41 hSh hx0) ⟨cd_X12_roadLine, ni_RX12, ml_RX12_174, in_X12_roadLine, sl_X12_roadLine⟩ ⟨by decide, by decide⟩ rfl (rm_ok (by decide) (by decide)) hl.1 rfl (Nat.le_of_ble_eq_true rfl) ⟨by decide, by decide⟩ dX12_line_188 (fun H locs S => ?_)
                    refine lv_goto (tgt := 237) hx hb dX12_line_191 (by decide) ?_
                    exact w_X12_line_237 C hr hSh σ41 x0 h hx0 H locs ls S (lv_sub hl [0] rfl)
                · have h := it_n c18 h
                  refine lv_iconst (v := (1 : Int32)) hx hb dX12_line_176 (by decide) ?_
                  refine lv_goto (tgt := 181) hx hb dX12_line_177 (by decide) ?_
                  obtain ⟨a42, σ42, hc42, h⟩ := bd_el h
                  refine x_callVI C S KX12 hx0 (ok_X12_startsWith (L := L) hc42 hSh hx0 (by decide)) ⟨cd_X12_startsWith, ni_RX12, ml_RX12_149, in_X12_startsWith, sl_X12_startsWith⟩ ⟨by decide, by decide⟩ rfl (rm_ok (by decide) (by decide)) hl.1 rfl (Nat.le_of_ble_eq_true rfl) ⟨by decide, by decide⟩ dX12_line_181 (fun H locs S => ?_)
                  refine lv_if_eq (tgt := 194) hx hb dX12_line_184 (by decide) (fun c43 => ?_) (fun c43 => ?_)
                  · have h := it_p c43 h
                    refine lv_aload_n hx hb dX12_line_194 rfl (lv_at hl 0 rfl) ?_
                    refine x_ldcs C (k := 177) (tx := "blast") (ia := 3) (by decide) dX12_line_195 ?_
                    refine lv_aload_n hx hb dX12_line_197 rfl (lv_at hl 0 rfl) ?_
                    obtain ⟨a44, σ44, hc44, h⟩ := bd_el h
                    refine x_callVI C S KX12 hx0 (ok_X12_blasts (L := L) hc44 hSh hx0) ⟨cd_X12_blasts, ni_RX12, ml_RX12_142, in_X12_blasts, sl_X12_blasts⟩ ⟨by decide, by decide⟩ rfl (rm_ok (by decide) (by decide)) hl.1 rfl (Nat.le_of_ble_eq_true rfl) ⟨by decide, by decide⟩ dX12_line_198 (fun H locs S => ?_)
                    refine lv_bipush (v := (6 : Int32)) hx hb dX12_line_201 (by decide) ?_
                    refine lv_icmp_ge (tgt := 210) hx hb dX12_line_203 (by decide) (fun c45 => ?_) (fun c45 => ?_)
                    · have h := it_p c45 h
                      refine lv_iconst (v := (0 : Int32)) hx hb dX12_line_210 (by decide) ?_
                      obtain ⟨a46, σ46, hc46, h⟩ := bd_el h
                      refine x_callVI C S KX12 hx0 (ok_X12_startsWith (L := L) hc46 hSh hx0 (by decide)) ⟨cd_X12_startsWith, ni_RX12, ml_RX12_149, in_X12_startsWith, sl_X12_startsWith⟩ ⟨by decide, by decide⟩ rfl (rm_ok (by decide) (by decide)) hl.1 rfl (Nat.le_of_ble_eq_true rfl) ⟨by decide, by decide⟩ dX12_line_211 (fun H locs S => ?_)
                      refine lv_if_eq (tgt := 224) hx hb dX12_line_214 (by decide) (fun c47 => ?_) (fun c47 => ?_)
                      · have h := it_p c47 h
                        refine lv_aload_n hx hb dX12_line_224 rfl (lv_at hl 0 rfl) ?_
                        obtain ⟨a48, σ48, hc48, h⟩ := bd_el h
                        refine x_callVI C S KX12 hx0 (ok_X12_hasFailed (L := L) hc48 hSh hx0) ⟨cd_X12_hasFailed, ni_RX12, ml_RX12_40, in_X12_hasFailed, sl_X12_hasFailed⟩ ⟨by decide, by decide⟩ rfl (rm_ok (by decide) (by decide)) hl.1 rfl (Nat.le_of_ble_eq_true rfl) ⟨by decide, by decide⟩ dX12_line_225 (fun H locs S => ?_)
                        refine lv_if_ne (tgt := 237) hx hb dX12_line_228 (by decide) (fun c49 => ?_) (fun c49 => ?_)
                        · have h := it_n c49 h
                          exact w_X12_line_237 C hr hSh σ48 x0 h hx0 H locs ls S (lv_sub hl [0] rfl)
                        · have h := it_p c49 h
                          refine lv_aload_n hx hb dX12_line_231 rfl (lv_at hl 0 rfl) ?_
                          refine lv_iconst (v := (0 : Int32)) hx hb dX12_line_232 (by decide) ?_
                          refine lv_iconst (v := (1 : Int32)) hx hb dX12_line_233 (by decide) ?_
                          obtain ⟨a50, σ50, hc50, h⟩ := bd_el h
                          refine x_callVV C S KX12 hx0 (ok_X12_must (L := L) hc50 hSh hx0) ⟨cd_X12_must, ni_RX12, ml_RX12_67, in_X12_must, sl_X12_must⟩ ⟨by decide, by decide⟩ rfl (rm_ok (by decide) (by decide)) hl.1 rfl (Nat.le_of_ble_eq_true rfl) ⟨by decide, by decide⟩ dX12_line_234 (fun H locs S => ?_)
                          exact w_X12_line_237 C hr hSh σ50 x0 h hx0 H locs ls S (lv_sub hl [0] rfl)
                      · have h := it_n c47 h
                        refine lv_aload_n hx hb dX12_line_217 rfl (lv_at hl 0 rfl) ?_
                        obtain ⟨a51, σ51, hc51, h⟩ := bd_el h
                        refine x_callVV C S KX12 hx0 (ok_X12_blastLine (L := L) hc51 hSh hx0) ⟨cd_X12_blastLine, ni_RX12, ml_RX12_179, in_X12_blastLine, sl_X12_blastLine⟩ ⟨by decide, by decide⟩ rfl (rm_ok (by decide) (by decide)) hl.1 rfl (Nat.le_of_ble_eq_true rfl) ⟨by decide, by decide⟩ dX12_line_218 (fun H locs S => ?_)
                        refine lv_goto (tgt := 237) hx hb dX12_line_221 (by decide) ?_
                        exact w_X12_line_237 C hr hSh σ51 x0 h hx0 H locs ls S (lv_sub hl [0] rfl)
                    · have h := it_n c45 h
                      refine lv_iconst (v := (1 : Int32)) hx hb dX12_line_206 (by decide) ?_
                      refine lv_goto (tgt := 211) hx hb dX12_line_207 (by decide) ?_
                      obtain ⟨a52, σ52, hc52, h⟩ := bd_el h
                      refine x_callVI C S KX12 hx0 (ok_X12_startsWith (L := L) hc52 hSh hx0 (by decide)) ⟨cd_X12_startsWith, ni_RX12, ml_RX12_149, in_X12_startsWith, sl_X12_startsWith⟩ ⟨by decide, by decide⟩ rfl (rm_ok (by decide) (by decide)) hl.1 rfl (Nat.le_of_ble_eq_true rfl) ⟨by decide, by decide⟩ dX12_line_211 (fun H locs S => ?_)
                      refine lv_if_eq (tgt := 224) hx hb dX12_line_214 (by decide) (fun c53 => ?_) (fun c53 => ?_)
                      · have h := it_p c53 h
                        refine lv_aload_n hx hb dX12_line_224 rfl (lv_at hl 0 rfl) ?_
                        obtain ⟨a54, σ54, hc54, h⟩ := bd_el h
                        refine x_callVI C S KX12 hx0 (ok_X12_hasFailed (L := L) hc54 hSh hx0) ⟨cd_X12_hasFailed, ni_RX12, ml_RX12_40, in_X12_hasFailed, sl_X12_hasFailed⟩ ⟨by decide, by decide⟩ rfl (rm_ok (by decide) (by decide)) hl.1 rfl (Nat.le_of_ble_eq_true rfl) ⟨by decide, by decide⟩ dX12_line_225 (fun H locs S => ?_)
                        refine lv_if_ne (tgt := 237) hx hb dX12_line_228 (by decide) (fun c55 => ?_) (fun c55 => ?_)
                        · have h := it_n c55 h
                          exact w_X12_line_237 C hr hSh σ54 x0 h hx0 H locs ls S (lv_sub hl [0] rfl)
                        · have h := it_p c55 h
                          refine lv_aload_n hx hb dX12_line_231 rfl (lv_at hl 0 rfl) ?_
                          refine lv_iconst (v := (0 : Int32)) hx hb dX12_line_232 (by decide) ?_
                          refine lv_iconst (v := (1 : Int32)) hx hb dX12_line_233 (by decide) ?_
                          obtain ⟨a56, σ56, hc56, h⟩ := bd_el h
                          refine x_callVV C S KX12 hx0 (ok_X12_must (L := L) hc56 hSh hx0) ⟨cd_X12_must, ni_RX12, ml_RX12_67, in_X12_must, sl_X12_must⟩ ⟨by decide, by decide⟩ rfl (rm_ok (by decide) (by decide)) hl.1 rfl (Nat.le_of_ble_eq_true rfl) ⟨by decide, by decide⟩ dX12_line_234 (fun H locs S => ?_)
                          exact w_X12_line_237 C hr hSh σ56 x0 h hx0 H locs ls S (lv_sub hl [0] rfl)
                      · have h := it_n c53 h
                        refine lv_aload_n hx hb dX12_line_217 rfl (lv_at hl 0 rfl) ?_
                        obtain ⟨a57, σ57, hc57, h⟩ := bd_el h
                        refine x_callVV C S KX12 hx0 (ok_X12_blastLine (L := L) hc57 hSh hx0) ⟨cd_X12_blastLine, ni_RX12, ml_RX12_179, in_X12_blastLine, sl_X12_blastLine⟩ ⟨by decide, by decide⟩ rfl (rm_ok (by decide) (by decide)) hl.1 rfl (Nat.le_of_ble_eq_true rfl) ⟨by decide, by decide⟩ dX12_line_218 (fun H locs S => ?_)
                        refine lv_goto (tgt := 237) hx hb dX12_line_221 (by decide) ?_
                        exact w_X12_line_237 C hr hSh σ57 x0 h hx0 H locs ls S (lv_sub hl [0] rfl)
                  · have h := it_n c43 h
                    refine lv_aload_n hx hb dX12_line_187 rfl (lv_at hl 0 rfl) ?_
                    obtain ⟨a58, σ58, hc58, h⟩ := bd_el h
                    refine x_callVV C S KX12 hx0 (ok_X12_roadLine (L := L) hc58 hSh hx0) ⟨cd_X12_roadLine, ni_RX12, ml_RX12_174, in_X12_roadLine, sl_X12_roadLine⟩ ⟨by decide, by decide⟩ rfl (rm_ok (by decide) (by decide)) hl.1 rfl (Nat.le_of_ble_eq_true rfl) ⟨by decide, by decide⟩ dX12_line_188 (fun H locs S => ?_)
                    refine lv_goto (tgt := 237) hx hb dX12_line_191 (by decide) ?_
                    exact w_X12_line_237 C hr hSh σ58 x0 h hx0 H locs ls S (lv_sub hl [0] rfl)
              · have h := it_n c15 h
                refine lv_aload_n hx hb dX12_line_155 rfl (lv_at hl 0 rfl) ?_
                obtain ⟨a59, σ59, hc59, h⟩ := bd_el h
                refine x_callVV C S KX12 hx0 (ok_X12_nearLine (L := L) hc59 hSh hx0) ⟨cd_X12_nearLine, ni_RX12, ml_RX12_169, in_X12_nearLine, sl_X12_nearLine⟩ ⟨by decide, by decide⟩ rfl (rm_ok (by decide) (by decide)) hl.1 rfl (Nat.le_of_ble_eq_true rfl) ⟨by decide, by decide⟩ dX12_line_156 (fun H locs S => ?_)
                refine lv_goto (tgt := 237) hx hb dX12_line_159 (by decide) ?_
                exact w_X12_line_237 C hr hSh σ59 x0 h hx0 H locs ls S (lv_sub hl [0] rfl)
            · have h := it_n c13 h
              refine lv_iconst (v := (1 : Int32)) hx hb dX12_line_144 (by decide) ?_
              refine lv_goto (tgt := 149) hx hb dX12_line_145 (by decide) ?_
              obtain ⟨a60, σ60, hc60, h⟩ := bd_el h
              refine x_callVI C S KX12 hx0 (ok_X12_startsWith (L := L) hc60 hSh hx0 (by decide)) ⟨cd_X12_startsWith, ni_RX12, ml_RX12_149, in_X12_startsWith, sl_X12_startsWith⟩ ⟨by decide, by decide⟩ rfl (rm_ok (by decide) (by decide)) hl.1 rfl (Nat.le_of_ble_eq_true rfl) ⟨by decide, by decide⟩ dX12_line_149 (fun H locs S => ?_)
              refine lv_if_eq (tgt := 162) hx hb dX12_line_152 (by decide) (fun c61 => ?_) (fun c61 => ?_)
              · have h := it_p c61 h
                refine lv_aload_n hx hb dX12_line_162 rfl (lv_at hl 0 rfl) ?_
                refine x_ldcs C (k := 172) (tx := "road") (ia := 2) (by decide) dX12_line_163 ?_
                refine lv_aload_n hx hb dX12_line_165 rfl (lv_at hl 0 rfl) ?_
                have hR62 : Ok 194 (R x0 11) 10417 := hSh x0 12 11 10417 hx0.1 rfl
                refine x_getR C S KX12 hx0 11 (by decide) rfl rfl fl_RX12_88 hR62 dX12_line_166 ?_
                refine lv_iconst (v := (1 : Int32)) hx hb dX12_line_169 (by decide) ?_
                obtain ⟨hi63, h⟩ := ck_el h
                refine x_iald (len := 417) C S (by decide) hR62 hi63 dX12_line_170 ?_
                refine lv_bipush (v := (6 : Int32)) hx hb dX12_line_171 (by decide) ?_
                refine lv_icmp_ge (tgt := 180) hx hb dX12_line_173 (by decide) (fun c64 => ?_) (fun c64 => ?_)
                · have h := it_p c64 h
                  refine lv_iconst (v := (0 : Int32)) hx hb dX12_line_180 (by decide) ?_
                  obtain ⟨a65, σ65, hc65, h⟩ := bd_el h
                  refine x_callVI C S KX12 hx0 (ok_X12_startsWith (L := L) hc65 hSh hx0 (by decide)) ⟨cd_X12_startsWith, ni_RX12, ml_RX12_149, in_X12_startsWith, sl_X12_startsWith⟩ ⟨by decide, by decide⟩ rfl (rm_ok (by decide) (by decide)) hl.1 rfl (Nat.le_of_ble_eq_true rfl) ⟨by decide, by decide⟩ dX12_line_181 (fun H locs S => ?_)
                  refine lv_if_eq (tgt := 194) hx hb dX12_line_184 (by decide) (fun c66 => ?_) (fun c66 => ?_)
                  · have h := it_p c66 h
                    refine lv_aload_n hx hb dX12_line_194 rfl (lv_at hl 0 rfl) ?_
                    refine x_ldcs C (k := 177) (tx := "blast") (ia := 3) (by decide) dX12_line_195 ?_
                    refine lv_aload_n hx hb dX12_line_197 rfl (lv_at hl 0 rfl) ?_
                    obtain ⟨a67, σ67, hc67, h⟩ := bd_el h
                    refine x_callVI C S KX12 hx0 (ok_X12_blasts (L := L) hc67 hSh hx0) ⟨cd_X12_blasts, ni_RX12, ml_RX12_142, in_X12_blasts, sl_X12_blasts⟩ ⟨by decide, by decide⟩ rfl (rm_ok (by decide) (by decide)) hl.1 rfl (Nat.le_of_ble_eq_true rfl) ⟨by decide, by decide⟩ dX12_line_198 (fun H locs S => ?_)
                    refine lv_bipush (v := (6 : Int32)) hx hb dX12_line_201 (by decide) ?_
                    refine lv_icmp_ge (tgt := 210) hx hb dX12_line_203 (by decide) (fun c68 => ?_) (fun c68 => ?_)
                    · have h := it_p c68 h
                      refine lv_iconst (v := (0 : Int32)) hx hb dX12_line_210 (by decide) ?_
                      obtain ⟨a69, σ69, hc69, h⟩ := bd_el h
                      refine x_callVI C S KX12 hx0 (ok_X12_startsWith (L := L) hc69 hSh hx0 (by decide)) ⟨cd_X12_startsWith, ni_RX12, ml_RX12_149, in_X12_startsWith, sl_X12_startsWith⟩ ⟨by decide, by decide⟩ rfl (rm_ok (by decide) (by decide)) hl.1 rfl (Nat.le_of_ble_eq_true rfl) ⟨by decide, by decide⟩ dX12_line_211 (fun H locs S => ?_)
                      refine lv_if_eq (tgt := 224) hx hb dX12_line_214 (by decide) (fun c70 => ?_) (fun c70 => ?_)
                      · have h := it_p c70 h
                        refine lv_aload_n hx hb dX12_line_224 rfl (lv_at hl 0 rfl) ?_
                        obtain ⟨a71, σ71, hc71, h⟩ := bd_el h
                        refine x_callVI C S KX12 hx0 (ok_X12_hasFailed (L := L) hc71 hSh hx0) ⟨cd_X12_hasFailed, ni_RX12, ml_RX12_40, in_X12_hasFailed, sl_X12_hasFailed⟩ ⟨by decide, by decide⟩ rfl (rm_ok (by decide) (by decide)) hl.1 rfl (Nat.le_of_ble_eq_true rfl) ⟨by decide, by decide⟩ dX12_line_225 (fun H locs S => ?_)
                        refine lv_if_ne (tgt := 237) hx hb dX12_line_228 (by decide) (fun c72 => ?_) (fun c72 => ?_)
                        · have h := it_n c72 h
                          exact w_X12_line_237 C hr hSh σ71 x0 h hx0 H locs ls S (lv_sub hl [0] rfl)
                        · have h := it_p c72 h
                          refine lv_aload_n hx hb dX12_line_231 rfl (lv_at hl 0 rfl) ?_
                          refine lv_iconst (v := (0 : Int32)) hx hb dX12_line_232 (by decide) ?_
                          refine lv_iconst (v := (1 : Int32)) hx hb dX12_line_233 (by decide) ?_
                          obtain ⟨a73, σ73, hc73, h⟩ := bd_el h
                          refine x_callVV C S KX12 hx0 (ok_X12_must (L := L) hc73 hSh hx0) ⟨cd_X12_must, ni_RX12, ml_RX12_67, in_X12_must, sl_X12_must⟩ ⟨by decide, by decide⟩ rfl (rm_ok (by decide) (by decide)) hl.1 rfl (Nat.le_of_ble_eq_true rfl) ⟨by decide, by decide⟩ dX12_line_234 (fun H locs S => ?_)
                          exact w_X12_line_237 C hr hSh σ73 x0 h hx0 H locs ls S (lv_sub hl [0] rfl)
                      · have h := it_n c70 h
                        refine lv_aload_n hx hb dX12_line_217 rfl (lv_at hl 0 rfl) ?_
                        obtain ⟨a74, σ74, hc74, h⟩ := bd_el h
                        refine x_callVV C S KX12 hx0 (ok_X12_blastLine (L := L) hc74 hSh hx0) ⟨cd_X12_blastLine, ni_RX12, ml_RX12_179, in_X12_blastLine, sl_X12_blastLine⟩ ⟨by decide, by decide⟩ rfl (rm_ok (by decide) (by decide)) hl.1 rfl (Nat.le_of_ble_eq_true rfl) ⟨by decide, by decide⟩ dX12_line_218 (fun H locs S => ?_)
                        refine lv_goto (tgt := 237) hx hb dX12_line_221 (by decide) ?_
                        exact w_X12_line_237 C hr hSh σ74 x0 h hx0 H locs ls S (lv_sub hl [0] rfl)
                    · have h := it_n c68 h
                      refine lv_iconst (v := (1 : Int32)) hx hb dX12_line_206 (by decide) ?_
                      refine lv_goto (tgt := 211) hx hb dX12_line_207 (by decide) ?_
                      obtain ⟨a75, σ75, hc75, h⟩ := bd_el h
                      refine x_callVI C S KX12 hx0 (ok_X12_startsWith (L := L) hc75 hSh hx0 (by decide)) ⟨cd_X12_startsWith, ni_RX12, ml_RX12_149, in_X12_startsWith, sl_X12_startsWith⟩ ⟨by decide, by decide⟩ rfl (rm_ok (by decide) (by decide)) hl.1 rfl (Nat.le_of_ble_eq_true rfl) ⟨by decide, by decide⟩ dX12_line_211 (fun H locs S => ?_)
                      refine lv_if_eq (tgt := 224) hx hb dX12_line_214 (by decide) (fun c76 => ?_) (fun c76 => ?_)
                      · have h := it_p c76 h
                        refine lv_aload_n hx hb dX12_line_224 rfl (lv_at hl 0 rfl) ?_
                        obtain ⟨a77, σ77, hc77, h⟩ := bd_el h
                        refine x_callVI C S KX12 hx0 (ok_X12_hasFailed (L := L) hc77 hSh hx0) ⟨cd_X12_hasFailed, ni_RX12, ml_RX12_40, in_X12_hasFailed, sl_X12_hasFailed⟩ ⟨by decide, by decide⟩ rfl (rm_ok (by decide) (by decide)) hl.1 rfl (Nat.le_of_ble_eq_true rfl) ⟨by decide, by decide⟩ dX12_line_225 (fun H locs S => ?_)
                        refine lv_if_ne (tgt := 237) hx hb dX12_line_228 (by decide) (fun c78 => ?_) (fun c78 => ?_)
                        · have h := it_n c78 h
                          exact w_X12_line_237 C hr hSh σ77 x0 h hx0 H locs ls S (lv_sub hl [0] rfl)
                        · have h := it_p c78 h
                          refine lv_aload_n hx hb dX12_line_231 rfl (lv_at hl 0 rfl) ?_
                          refine lv_iconst (v := (0 : Int32)) hx hb dX12_line_232 (by decide) ?_
                          refine lv_iconst (v := (1 : Int32)) hx hb dX12_line_233 (by decide) ?_
                          obtain ⟨a79, σ79, hc79, h⟩ := bd_el h
                          refine x_callVV C S KX12 hx0 (ok_X12_must (L := L) hc79 hSh hx0) ⟨cd_X12_must, ni_RX12, ml_RX12_67, in_X12_must, sl_X12_must⟩ ⟨by decide, by decide⟩ rfl (rm_ok (by decide) (by decide)) hl.1 rfl (Nat.le_of_ble_eq_true rfl) ⟨by decide, by decide⟩ dX12_line_234 (fun H locs S => ?_)
                          exact w_X12_line_237 C hr hSh σ79 x0 h hx0 H locs ls S (lv_sub hl [0] rfl)
                      · have h := it_n c76 h
                        refine lv_aload_n hx hb dX12_line_217 rfl (lv_at hl 0 rfl) ?_
                        obtain ⟨a80, σ80, hc80, h⟩ := bd_el h
                        refine x_callVV C S KX12 hx0 (ok_X12_blastLine (L := L) hc80 hSh hx0) ⟨cd_X12_blastLine, ni_RX12, ml_RX12_179, in_X12_blastLine, sl_X12_blastLine⟩ ⟨by decide, by decide⟩ rfl (rm_ok (by decide) (by decide)) hl.1 rfl (Nat.le_of_ble_eq_true rfl) ⟨by decide, by decide⟩ dX12_line_218 (fun H locs S => ?_)
                        refine lv_goto (tgt := 237) hx hb dX12_line_221 (by decide) ?_
                        exact w_X12_line_237 C hr hSh σ80 x0 h hx0 H locs ls S (lv_sub hl [0] rfl)
                  · have h := it_n c66 h
                    refine lv_aload_n hx hb dX12_line_187 rfl (lv_at hl 0 rfl) ?_
                    obtain ⟨a81, σ81, hc81, h⟩ := bd_el h
                    refine x_callVV C S KX12 hx0 (ok_X12_roadLine (L := L) hc81 hSh hx0) ⟨cd_X12_roadLine, ni_RX12, ml_RX12_174, in_X12_roadLine, sl_X12_roadLine⟩ ⟨by decide, by decide⟩ rfl (rm_ok (by decide) (by decide)) hl.1 rfl (Nat.le_of_ble_eq_true rfl) ⟨by decide, by decide⟩ dX12_line_188 (fun H locs S => ?_)
                    refine lv_goto (tgt := 237) hx hb dX12_line_191 (by decide) ?_
                    exact w_X12_line_237 C hr hSh σ81 x0 h hx0 H locs ls S (lv_sub hl [0] rfl)
                · have h := it_n c64 h
                  refine lv_iconst (v := (1 : Int32)) hx hb dX12_line_176 (by decide) ?_
                  refine lv_goto (tgt := 181) hx hb dX12_line_177 (by decide) ?_
                  obtain ⟨a82, σ82, hc82, h⟩ := bd_el h
                  refine x_callVI C S KX12 hx0 (ok_X12_startsWith (L := L) hc82 hSh hx0 (by decide)) ⟨cd_X12_startsWith, ni_RX12, ml_RX12_149, in_X12_startsWith, sl_X12_startsWith⟩ ⟨by decide, by decide⟩ rfl (rm_ok (by decide) (by decide)) hl.1 rfl (Nat.le_of_ble_eq_true rfl) ⟨by decide, by decide⟩ dX12_line_181 (fun H locs S => ?_)
                  refine lv_if_eq (tgt := 194) hx hb dX12_line_184 (by decide) (fun c83 => ?_) (fun c83 => ?_)
                  · have h := it_p c83 h
                    refine lv_aload_n hx hb dX12_line_194 rfl (lv_at hl 0 rfl) ?_
                    refine x_ldcs C (k := 177) (tx := "blast") (ia := 3) (by decide) dX12_line_195 ?_
                    refine lv_aload_n hx hb dX12_line_197 rfl (lv_at hl 0 rfl) ?_
                    obtain ⟨a84, σ84, hc84, h⟩ := bd_el h
                    refine x_callVI C S KX12 hx0 (ok_X12_blasts (L := L) hc84 hSh hx0) ⟨cd_X12_blasts, ni_RX12, ml_RX12_142, in_X12_blasts, sl_X12_blasts⟩ ⟨by decide, by decide⟩ rfl (rm_ok (by decide) (by decide)) hl.1 rfl (Nat.le_of_ble_eq_true rfl) ⟨by decide, by decide⟩ dX12_line_198 (fun H locs S => ?_)
                    refine lv_bipush (v := (6 : Int32)) hx hb dX12_line_201 (by decide) ?_
                    refine lv_icmp_ge (tgt := 210) hx hb dX12_line_203 (by decide) (fun c85 => ?_) (fun c85 => ?_)
                    · have h := it_p c85 h
                      refine lv_iconst (v := (0 : Int32)) hx hb dX12_line_210 (by decide) ?_
                      obtain ⟨a86, σ86, hc86, h⟩ := bd_el h
                      refine x_callVI C S KX12 hx0 (ok_X12_startsWith (L := L) hc86 hSh hx0 (by decide)) ⟨cd_X12_startsWith, ni_RX12, ml_RX12_149, in_X12_startsWith, sl_X12_startsWith⟩ ⟨by decide, by decide⟩ rfl (rm_ok (by decide) (by decide)) hl.1 rfl (Nat.le_of_ble_eq_true rfl) ⟨by decide, by decide⟩ dX12_line_211 (fun H locs S => ?_)
                      refine lv_if_eq (tgt := 224) hx hb dX12_line_214 (by decide) (fun c87 => ?_) (fun c87 => ?_)
                      · have h := it_p c87 h
                        refine lv_aload_n hx hb dX12_line_224 rfl (lv_at hl 0 rfl) ?_
                        obtain ⟨a88, σ88, hc88, h⟩ := bd_el h
                        refine x_callVI C S KX12 hx0 (ok_X12_hasFailed (L := L) hc88 hSh hx0) ⟨cd_X12_hasFailed, ni_RX12, ml_RX12_40, in_X12_hasFailed, sl_X12_hasFailed⟩ ⟨by decide, by decide⟩ rfl (rm_ok (by decide) (by decide)) hl.1 rfl (Nat.le_of_ble_eq_true rfl) ⟨by decide, by decide⟩ dX12_line_225 (fun H locs S => ?_)
                        refine lv_if_ne (tgt := 237) hx hb dX12_line_228 (by decide) (fun c89 => ?_) (fun c89 => ?_)
                        · have h := it_n c89 h
                          exact w_X12_line_237 C hr hSh σ88 x0 h hx0 H locs ls S (lv_sub hl [0] rfl)
                        · have h := it_p c89 h
                          refine lv_aload_n hx hb dX12_line_231 rfl (lv_at hl 0 rfl) ?_
                          refine lv_iconst (v := (0 : Int32)) hx hb dX12_line_232 (by decide) ?_
                          refine lv_iconst (v := (1 : Int32)) hx hb dX12_line_233 (by decide) ?_
                          obtain ⟨a90, σ90, hc90, h⟩ := bd_el h
                          refine x_callVV C S KX12 hx0 (ok_X12_must (L := L) hc90 hSh hx0) ⟨cd_X12_must, ni_RX12, ml_RX12_67, in_X12_must, sl_X12_must⟩ ⟨by decide, by decide⟩ rfl (rm_ok (by decide) (by decide)) hl.1 rfl (Nat.le_of_ble_eq_true rfl) ⟨by decide, by decide⟩ dX12_line_234 (fun H locs S => ?_)
                          exact w_X12_line_237 C hr hSh σ90 x0 h hx0 H locs ls S (lv_sub hl [0] rfl)
                      · have h := it_n c87 h
                        refine lv_aload_n hx hb dX12_line_217 rfl (lv_at hl 0 rfl) ?_
                        obtain ⟨a91, σ91, hc91, h⟩ := bd_el h
                        refine x_callVV C S KX12 hx0 (ok_X12_blastLine (L := L) hc91 hSh hx0) ⟨cd_X12_blastLine, ni_RX12, ml_RX12_179, in_X12_blastLine, sl_X12_blastLine⟩ ⟨by decide, by decide⟩ rfl (rm_ok (by decide) (by decide)) hl.1 rfl (Nat.le_of_ble_eq_true rfl) ⟨by decide, by decide⟩ dX12_line_218 (fun H locs S => ?_)
                        refine lv_goto (tgt := 237) hx hb dX12_line_221 (by decide) ?_
                        exact w_X12_line_237 C hr hSh σ91 x0 h hx0 H locs ls S (lv_sub hl [0] rfl)
                    · have h := it_n c85 h
                      refine lv_iconst (v := (1 : Int32)) hx hb dX12_line_206 (by decide) ?_
                      refine lv_goto (tgt := 211) hx hb dX12_line_207 (by decide) ?_
                      obtain ⟨a92, σ92, hc92, h⟩ := bd_el h
                      refine x_callVI C S KX12 hx0 (ok_X12_startsWith (L := L) hc92 hSh hx0 (by decide)) ⟨cd_X12_startsWith, ni_RX12, ml_RX12_149, in_X12_startsWith, sl_X12_startsWith⟩ ⟨by decide, by decide⟩ rfl (rm_ok (by decide) (by decide)) hl.1 rfl (Nat.le_of_ble_eq_true rfl) ⟨by decide, by decide⟩ dX12_line_211 (fun H locs S => ?_)
                      refine lv_if_eq (tgt := 224) hx hb dX12_line_214 (by decide) (fun c93 => ?_) (fun c93 => ?_)
                      · have h := it_p c93 h
                        refine lv_aload_n hx hb dX12_line_224 rfl (lv_at hl 0 rfl) ?_
                        obtain ⟨a94, σ94, hc94, h⟩ := bd_el h
                        refine x_callVI C S KX12 hx0 (ok_X12_hasFailed (L := L) hc94 hSh hx0) ⟨cd_X12_hasFailed, ni_RX12, ml_RX12_40, in_X12_hasFailed, sl_X12_hasFailed⟩ ⟨by decide, by decide⟩ rfl (rm_ok (by decide) (by decide)) hl.1 rfl (Nat.le_of_ble_eq_true rfl) ⟨by decide, by decide⟩ dX12_line_225 (fun H locs S => ?_)
                        refine lv_if_ne (tgt := 237) hx hb dX12_line_228 (by decide) (fun c95 => ?_) (fun c95 => ?_)
                        · have h := it_n c95 h
                          exact w_X12_line_237 C hr hSh σ94 x0 h hx0 H locs ls S (lv_sub hl [0] rfl)
                        · have h := it_p c95 h
                          refine lv_aload_n hx hb dX12_line_231 rfl (lv_at hl 0 rfl) ?_
                          refine lv_iconst (v := (0 : Int32)) hx hb dX12_line_232 (by decide) ?_
                          refine lv_iconst (v := (1 : Int32)) hx hb dX12_line_233 (by decide) ?_
                          obtain ⟨a96, σ96, hc96, h⟩ := bd_el h
                          refine x_callVV C S KX12 hx0 (ok_X12_must (L := L) hc96 hSh hx0) ⟨cd_X12_must, ni_RX12, ml_RX12_67, in_X12_must, sl_X12_must⟩ ⟨by decide, by decide⟩ rfl (rm_ok (by decide) (by decide)) hl.1 rfl (Nat.le_of_ble_eq_true rfl) ⟨by decide, by decide⟩ dX12_line_234 (fun H locs S => ?_)
                          exact w_X12_line_237 C hr hSh σ96 x0 h hx0 H locs ls S (lv_sub hl [0] rfl)
                      · have h := it_n c93 h
                        refine lv_aload_n hx hb dX12_line_217 rfl (lv_at hl 0 rfl) ?_
                        obtain ⟨a97, σ97, hc97, h⟩ := bd_el h
                        refine x_callVV C S KX12 hx0 (ok_X12_blastLine (L := L) hc97 hSh hx0) ⟨cd_X12_blastLine, ni_RX12, ml_RX12_179, in_X12_blastLine, sl_X12_blastLine⟩ ⟨by decide, by decide⟩ rfl (rm_ok (by decide) (by decide)) hl.1 rfl (Nat.le_of_ble_eq_true rfl) ⟨by decide, by decide⟩ dX12_line_218 (fun H locs S => ?_)
                        refine lv_goto (tgt := 237) hx hb dX12_line_221 (by decide) ?_
                        exact w_X12_line_237 C hr hSh σ97 x0 h hx0 H locs ls S (lv_sub hl [0] rfl)
                  · have h := it_n c83 h
                    refine lv_aload_n hx hb dX12_line_187 rfl (lv_at hl 0 rfl) ?_
                    obtain ⟨a98, σ98, hc98, h⟩ := bd_el h
                    refine x_callVV C S KX12 hx0 (ok_X12_roadLine (L := L) hc98 hSh hx0) ⟨cd_X12_roadLine, ni_RX12, ml_RX12_174, in_X12_roadLine, sl_X12_roadLine⟩ ⟨by decide, by decide⟩ rfl (rm_ok (by decide) (by decide)) hl.1 rfl (Nat.le_of_ble_eq_true rfl) ⟨by decide, by decide⟩ dX12_line_188 (fun H locs S => ?_)
                    refine lv_goto (tgt := 237) hx hb dX12_line_191 (by decide) ?_
                    exact w_X12_line_237 C hr hSh σ98 x0 h hx0 H locs ls S (lv_sub hl [0] rfl)
              · have h := it_n c61 h
                refine lv_aload_n hx hb dX12_line_155 rfl (lv_at hl 0 rfl) ?_
                obtain ⟨a99, σ99, hc99, h⟩ := bd_el h
                refine x_callVV C S KX12 hx0 (ok_X12_nearLine (L := L) hc99 hSh hx0) ⟨cd_X12_nearLine, ni_RX12, ml_RX12_169, in_X12_nearLine, sl_X12_nearLine⟩ ⟨by decide, by decide⟩ rfl (rm_ok (by decide) (by decide)) hl.1 rfl (Nat.le_of_ble_eq_true rfl) ⟨by decide, by decide⟩ dX12_line_156 (fun H locs S => ?_)
                refine lv_goto (tgt := 237) hx hb dX12_line_159 (by decide) ?_
                exact w_X12_line_237 C hr hSh σ99 x0 h hx0 H locs ls S (lv_sub hl [0] rfl)
          · have h := it_n c10 h
            refine lv_aload_n hx hb dX12_line_123 rfl (lv_at hl 0 rfl) ?_
            obtain ⟨a100, σ100, hc100, h⟩ := bd_el h
            refine x_callVV C S KX12 hx0 (ok_X12_windLine (L := L) hc100 hSh hx0) ⟨cd_X12_windLine, ni_RX12, ml_RX12_164, in_X12_windLine, sl_X12_windLine⟩ ⟨by decide, by decide⟩ rfl (rm_ok (by decide) (by decide)) hl.1 rfl (Nat.le_of_ble_eq_true rfl) ⟨by decide, by decide⟩ dX12_line_124 (fun H locs S => ?_)
            refine lv_goto (tgt := 237) hx hb dX12_line_127 (by decide) ?_
            exact w_X12_line_237 C hr hSh σ100 x0 h hx0 H locs ls S (lv_sub hl [0] rfl)
        · have h := it_n c8 h
          refine lv_aload_n hx hb dX12_line_95 rfl (lv_at hl 0 rfl) ?_
          have hR101 : Ok 194 (R x0 11) 10417 := hSh x0 12 11 10417 hx0.1 rfl
          refine x_getR C S KX12 hx0 11 (by decide) rfl rfl fl_RX12_88 hR101 dX12_line_96 ?_
          refine lv_bipush (v := (8 : Int32)) hx hb dX12_line_99 (by decide) ?_
          refine lv_aload_n hx hb dX12_line_101 rfl (lv_at hl 0 rfl) ?_
          refine lv_iconst (v := (0 : Int32)) hx hb dX12_line_102 (by decide) ?_
          refine lv_sipush (v := (240 : Int32)) hx hb dX12_line_103 (by decide) ?_
          obtain ⟨a102, σ102, hc102, h⟩ := bd_el h
          refine x_callVI C S KX12 hx0 (ok_X12_number (L := L) hc102 hSh hx0) ⟨cd_X12_number, ni_RX12, ml_RX12_79, in_X12_number, sl_X12_number⟩ ⟨by decide, by decide⟩ rfl (rm_ok (by decide) (by decide)) hl.1 rfl (Nat.le_of_ble_eq_true rfl) ⟨by decide, by decide⟩ dX12_line_106 (fun H locs S => ?_)
          obtain ⟨hi103, h⟩ := ck_el h
          obtain ⟨σ104, hs104, h⟩ := sq_el h
          refine x_iast (len := 417) C S (by decide) hR101 hi103 dX12_line_109 hs104 (fun H locs S => ?_)
          refine lv_goto (tgt := 237) hx hb dX12_line_110 (by decide) ?_
          exact w_X12_line_237 C hr hSh σ104 x0 h hx0 H locs ls S (lv_sub hl [0] rfl)
      · have h := it_n c6 h
        refine lv_aload_n hx hb dX12_line_54 rfl (lv_at hl 0 rfl) ?_
        have hR105 : Ok 194 (R x0 11) 10417 := hSh x0 12 11 10417 hx0.1 rfl
        refine x_getR C S KX12 hx0 11 (by decide) rfl rfl fl_RX12_88 hR105 dX12_line_55 ?_
        refine lv_bipush (v := (6 : Int32)) hx hb dX12_line_58 (by decide) ?_
        refine lv_aload_n hx hb dX12_line_60 rfl (lv_at hl 0 rfl) ?_
        refine lv_iconst (v := (0 : Int32)) hx hb dX12_line_61 (by decide) ?_
        refine lv_bipush (v := (60 : Int32)) hx hb dX12_line_62 (by decide) ?_
        obtain ⟨a106, σ106, hc106, h⟩ := bd_el h
        refine x_callVI C S KX12 hx0 (ok_X12_number (L := L) hc106 hSh hx0) ⟨cd_X12_number, ni_RX12, ml_RX12_79, in_X12_number, sl_X12_number⟩ ⟨by decide, by decide⟩ rfl (rm_ok (by decide) (by decide)) hl.1 rfl (Nat.le_of_ble_eq_true rfl) ⟨by decide, by decide⟩ dX12_line_64 (fun H locs S => ?_)
        obtain ⟨hi107, h⟩ := ck_el h
        obtain ⟨σ108, hs108, h⟩ := sq_el h
        refine x_iast (len := 417) C S (by decide) hR105 hi107 dX12_line_67 hs108 (fun H locs S => ?_)
        refine lv_aload_n hx hb dX12_line_68 rfl (lv_at hl 0 rfl) ?_
        have hR109 : Ok 194 (R x0 11) 10417 := hSh x0 12 11 10417 hx0.1 rfl
        refine x_getR C S KX12 hx0 11 (by decide) rfl rfl fl_RX12_88 hR109 dX12_line_69 ?_
        refine lv_bipush (v := (7 : Int32)) hx hb dX12_line_72 (by decide) ?_
        refine lv_aload_n hx hb dX12_line_74 rfl (lv_at hl 0 rfl) ?_
        refine lv_iconst (v := (0 : Int32)) hx hb dX12_line_75 (by decide) ?_
        refine lv_bipush (v := (60 : Int32)) hx hb dX12_line_76 (by decide) ?_
        obtain ⟨a110, σ110, hc110, h⟩ := bd_el h
        refine x_callVI C S KX12 hx0 (ok_X12_number (L := L) hc110 hSh hx0) ⟨cd_X12_number, ni_RX12, ml_RX12_79, in_X12_number, sl_X12_number⟩ ⟨by decide, by decide⟩ rfl (rm_ok (by decide) (by decide)) hl.1 rfl (Nat.le_of_ble_eq_true rfl) ⟨by decide, by decide⟩ dX12_line_78 (fun H locs S => ?_)
        obtain ⟨hi111, h⟩ := ck_el h
        obtain ⟨σ112, hs112, h⟩ := sq_el h
        refine x_iast (len := 417) C S (by decide) hR109 hi111 dX12_line_81 hs112 (fun H locs S => ?_)
        refine lv_goto (tgt := 237) hx hb dX12_line_82 (by decide) ?_
        exact w_X12_line_237 C hr hSh σ112 x0 h hx0 H locs ls S (lv_sub hl [0] rfl)
    · have h := it_n c4 h
      refine lv_aload_n hx hb dX12_line_27 rfl (lv_at hl 0 rfl) ?_
      have hR113 : Ok 194 (R x0 11) 10417 := hSh x0 12 11 10417 hx0.1 rfl
      refine x_getR C S KX12 hx0 11 (by decide) rfl rfl fl_RX12_88 hR113 dX12_line_28 ?_
      refine lv_iconst (v := (5 : Int32)) hx hb dX12_line_31 (by decide) ?_
      refine lv_aload_n hx hb dX12_line_32 rfl (lv_at hl 0 rfl) ?_
      refine lv_iconst (v := (1 : Int32)) hx hb dX12_line_33 (by decide) ?_
      refine lv_sipush (v := (240 : Int32)) hx hb dX12_line_34 (by decide) ?_
      obtain ⟨a114, σ114, hc114, h⟩ := bd_el h
      refine x_callVI C S KX12 hx0 (ok_X12_number (L := L) hc114 hSh hx0) ⟨cd_X12_number, ni_RX12, ml_RX12_79, in_X12_number, sl_X12_number⟩ ⟨by decide, by decide⟩ rfl (rm_ok (by decide) (by decide)) hl.1 rfl (Nat.le_of_ble_eq_true rfl) ⟨by decide, by decide⟩ dX12_line_37 (fun H locs S => ?_)
      obtain ⟨hi115, h⟩ := ck_el h
      obtain ⟨σ116, hs116, h⟩ := sq_el h
      refine x_iast (len := 417) C S (by decide) hR113 hi115 dX12_line_40 hs116 (fun H locs S => ?_)
      refine lv_goto (tgt := 237) hx hb dX12_line_41 (by decide) ?_
      exact w_X12_line_237 C hr hSh σ116 x0 h hx0 H locs ls S (lv_sub hl [0] rfl)
  · have h := it_n c2 h
    refine lv_aload_n hx hb dX12_line_10 rfl (lv_at hl 0 rfl) ?_
    obtain ⟨a117, σ117, hc117, h⟩ := bd_el h
    refine x_callVV C S KX12 hx0 (ok_X12_dayLine (L := L) hc117 hSh hx0) ⟨cd_X12_dayLine, ni_RX12, ml_RX12_153, in_X12_dayLine, sl_X12_dayLine⟩ ⟨by decide, by decide⟩ rfl (rm_ok (by decide) (by decide)) hl.1 rfl (Nat.le_of_ble_eq_true rfl) ⟨by decide, by decide⟩ dX12_line_11 (fun H locs S => ?_)
    refine lv_goto (tgt := 237) hx hb dX12_line_14 (by decide) ?_
    exact w_X12_line_237 C hr hSh σ117 x0 h hx0 H locs ls S (lv_sub hl [0] rfl)
theorem dX12_load_0 : decode cX12_load 0 = .ok (.aload_n 0, 1) := by decide +kernel
theorem dX12_load_1 : decode cX12_load 1 = .ok (.iconst 0, 1) := by decide +kernel
theorem dX12_load_2 : decode cX12_load 2 = .ok (.putfield 3, 3) := by decide +kernel
theorem dX12_load_5 : decode cX12_load 5 = .ok (.aload_n 0, 1) := by decide +kernel
theorem dX12_load_6 : decode cX12_load 6 = .ok (.aload_n 0, 1) := by decide +kernel
theorem dX12_load_7 : decode cX12_load 7 = .ok (.getfield 7, 3) := by decide +kernel
theorem dX12_load_10 : decode cX12_load 10 = .ok (.putfield 30, 3) := by decide +kernel
theorem dX12_load_13 : decode cX12_load 13 = .ok (.aload_n 0, 1) := by decide +kernel
theorem dX12_load_14 : decode cX12_load 14 = .ok (.iconst 0, 1) := by decide +kernel
theorem dX12_load_15 : decode cX12_load 15 = .ok (.putfield 7, 3) := by decide +kernel
theorem dX12_load_18 : decode cX12_load 18 = .ok (.aload_n 0, 1) := by decide +kernel
theorem dX12_load_19 : decode cX12_load 19 = .ok (.iconst 0, 1) := by decide +kernel
theorem dX12_load_20 : decode cX12_load 20 = .ok (.putfield 27, 3) := by decide +kernel
theorem dX12_load_23 : decode cX12_load 23 = .ok (.aload_n 0, 1) := by decide +kernel
theorem dX12_load_24 : decode cX12_load 24 = .ok (.iconst (-1), 1) := by decide +kernel
theorem dX12_load_25 : decode cX12_load 25 = .ok (.putfield 24, 3) := by decide +kernel
theorem dX12_load_28 : decode cX12_load 28 = .ok (.aload_n 0, 1) := by decide +kernel
theorem dX12_load_29 : decode cX12_load 29 = .ok (.iconst 0, 1) := by decide +kernel
theorem dX12_load_30 : decode cX12_load 30 = .ok (.putfield 44, 3) := by decide +kernel
theorem dX12_load_33 : decode cX12_load 33 = .ok (.iconst 0, 1) := by decide +kernel
theorem dX12_load_34 : decode cX12_load 34 = .ok (.istore_n 1, 1) := by decide +kernel
theorem dX12_load_35 : decode cX12_load 35 = .ok (.iload_n 1, 1) := by decide +kernel
theorem dX12_load_36 : decode cX12_load 36 = .ok (.sipush 417, 3) := by decide +kernel
theorem dX12_load_39 : decode cX12_load 39 = .ok (.if_icmp .ge 21, 3) := by decide +kernel
theorem dX12_load_42 : decode cX12_load 42 = .ok (.aload_n 0, 1) := by decide +kernel
theorem dX12_load_43 : decode cX12_load 43 = .ok (.getfield 91, 3) := by decide +kernel
theorem dX12_load_46 : decode cX12_load 46 = .ok (.iload_n 1, 1) := by decide +kernel
theorem dX12_load_47 : decode cX12_load 47 = .ok (.aload_n 0, 1) := by decide +kernel
theorem dX12_load_48 : decode cX12_load 48 = .ok (.getfield 88, 3) := by decide +kernel
theorem dX12_load_51 : decode cX12_load 51 = .ok (.iload_n 1, 1) := by decide +kernel
theorem dX12_load_52 : decode cX12_load 52 = .ok (.iaload, 1) := by decide +kernel
theorem dX12_load_53 : decode cX12_load 53 = .ok (.iastore, 1) := by decide +kernel
theorem dX12_load_54 : decode cX12_load 54 = .ok (.iinc 1 1, 3) := by decide +kernel
theorem dX12_load_57 : decode cX12_load 57 = .ok (.goto (-22), 3) := by decide +kernel
theorem dX12_load_60 : decode cX12_load 60 = .ok (.aload_n 0, 1) := by decide +kernel
theorem dX12_load_61 : decode cX12_load 61 = .ok (.invokevirtual 128, 3) := by decide +kernel
theorem dX12_load_64 : decode cX12_load 64 = .ok (.aload_n 0, 1) := by decide +kernel
theorem dX12_load_65 : decode cX12_load 65 = .ok (.invokevirtual 47, 3) := by decide +kernel
theorem dX12_load_68 : decode cX12_load 68 = .ok (.aload_n 0, 1) := by decide +kernel
theorem dX12_load_69 : decode cX12_load 69 = .ok (.invokevirtual 40, 3) := by decide +kernel
theorem dX12_load_72 : decode cX12_load 72 = .ok (.ifCond .ne 25, 3) := by decide +kernel
theorem dX12_load_75 : decode cX12_load 75 = .ok (.aload_n 0, 1) := by decide +kernel
theorem dX12_load_76 : decode cX12_load 76 = .ok (.getfield 27, 3) := by decide +kernel
theorem dX12_load_79 : decode cX12_load 79 = .ok (.aload_n 0, 1) := by decide +kernel
theorem dX12_load_80 : decode cX12_load 80 = .ok (.getfield 30, 3) := by decide +kernel
theorem dX12_load_83 : decode cX12_load 83 = .ok (.if_icmp .ge 14, 3) := by decide +kernel
theorem dX12_load_86 : decode cX12_load 86 = .ok (.aload_n 0, 1) := by decide +kernel
theorem dX12_load_87 : decode cX12_load 87 = .ok (.invokevirtual 182, 3) := by decide +kernel
theorem dX12_load_90 : decode cX12_load 90 = .ok (.aload_n 0, 1) := by decide +kernel
theorem dX12_load_91 : decode cX12_load 91 = .ok (.invokevirtual 47, 3) := by decide +kernel
theorem dX12_load_94 : decode cX12_load 94 = .ok (.goto (-26), 3) := by decide +kernel
theorem dX12_load_97 : decode cX12_load 97 = .ok (.aload_n 0, 1) := by decide +kernel
theorem dX12_load_98 : decode cX12_load 98 = .ok (.aload_n 0, 1) := by decide +kernel
theorem dX12_load_99 : decode cX12_load 99 = .ok (.getfield 24, 3) := by decide +kernel
theorem dX12_load_102 : decode cX12_load 102 = .ok (.putfield 18, 3) := by decide +kernel
theorem dX12_load_105 : decode cX12_load 105 = .ok (.aload_n 0, 1) := by decide +kernel
theorem dX12_load_106 : decode cX12_load 106 = .ok (.aload_n 0, 1) := by decide +kernel
theorem dX12_load_107 : decode cX12_load 107 = .ok (.getfield 44, 3) := by decide +kernel
theorem dX12_load_110 : decode cX12_load 110 = .ok (.putfield 21, 3) := by decide +kernel
theorem dX12_load_113 : decode cX12_load 113 = .ok (.aload_n 0, 1) := by decide +kernel
theorem dX12_load_114 : decode cX12_load 114 = .ok (.aload_n 0, 1) := by decide +kernel
theorem dX12_load_115 : decode cX12_load 115 = .ok (.invokevirtual 40, 3) := by decide +kernel
theorem dX12_load_118 : decode cX12_load 118 = .ok (.iconst 1, 1) := by decide +kernel
theorem dX12_load_119 : decode cX12_load 119 = .ok (.invokevirtual 185, 3) := by decide +kernel
theorem dX12_load_122 : decode cX12_load 122 = .ok (.ifCond .eq 32, 3) := by decide +kernel
theorem dX12_load_125 : decode cX12_load 125 = .ok (.iconst 0, 1) := by decide +kernel
theorem dX12_load_126 : decode cX12_load 126 = .ok (.istore_n 1, 1) := by decide +kernel
theorem dX12_load_127 : decode cX12_load 127 = .ok (.iload_n 1, 1) := by decide +kernel
theorem dX12_load_128 : decode cX12_load 128 = .ok (.sipush 417, 3) := by decide +kernel
theorem dX12_load_131 : decode cX12_load 131 = .ok (.if_icmp .ge 21, 3) := by decide +kernel
theorem dX12_load_134 : decode cX12_load 134 = .ok (.aload_n 0, 1) := by decide +kernel
theorem dX12_load_135 : decode cX12_load 135 = .ok (.getfield 88, 3) := by decide +kernel
theorem dX12_load_138 : decode cX12_load 138 = .ok (.iload_n 1, 1) := by decide +kernel
theorem dX12_load_139 : decode cX12_load 139 = .ok (.aload_n 0, 1) := by decide +kernel
theorem dX12_load_140 : decode cX12_load 140 = .ok (.getfield 91, 3) := by decide +kernel
theorem dX12_load_143 : decode cX12_load 143 = .ok (.iload_n 1, 1) := by decide +kernel
theorem dX12_load_144 : decode cX12_load 144 = .ok (.iaload, 1) := by decide +kernel
theorem dX12_load_145 : decode cX12_load 145 = .ok (.iastore, 1) := by decide +kernel
theorem dX12_load_146 : decode cX12_load 146 = .ok (.iinc 1 1, 3) := by decide +kernel
theorem dX12_load_149 : decode cX12_load 149 = .ok (.goto (-22), 3) := by decide +kernel
theorem dX12_load_152 : decode cX12_load 152 = .ok (.iconst 0, 1) := by decide +kernel
theorem dX12_load_153 : decode cX12_load 153 = .ok (.ireturn, 1) := by decide +kernel
theorem dX12_load_154 : decode cX12_load 154 = .ok (.iconst 0, 1) := by decide +kernel
theorem dX12_load_155 : decode cX12_load 155 = .ok (.istore_n 1, 1) := by decide +kernel
theorem dX12_load_156 : decode cX12_load 156 = .ok (.iload_n 1, 1) := by decide +kernel
theorem dX12_load_157 : decode cX12_load 157 = .ok (.bipush 84, 2) := by decide +kernel
theorem dX12_load_159 : decode cX12_load 159 = .ok (.if_icmp .ge 21, 3) := by decide +kernel
theorem dX12_load_162 : decode cX12_load 162 = .ok (.aload_n 0, 1) := by decide +kernel
theorem dX12_load_163 : decode cX12_load 163 = .ok (.getfield 94, 3) := by decide +kernel
theorem dX12_load_166 : decode cX12_load 166 = .ok (.iload_n 1, 1) := by decide +kernel
theorem dX12_load_167 : decode cX12_load 167 = .ok (.aload_n 0, 1) := by decide +kernel
theorem dX12_load_168 : decode cX12_load 168 = .ok (.getfield 97, 3) := by decide +kernel
theorem dX12_load_171 : decode cX12_load 171 = .ok (.iload_n 1, 1) := by decide +kernel
theorem dX12_load_172 : decode cX12_load 172 = .ok (.iaload, 1) := by decide +kernel
theorem dX12_load_173 : decode cX12_load 173 = .ok (.iastore, 1) := by decide +kernel
theorem dX12_load_174 : decode cX12_load 174 = .ok (.iinc 1 1, 3) := by decide +kernel
theorem dX12_load_177 : decode cX12_load 177 = .ok (.goto (-21), 3) := by decide +kernel
theorem dX12_load_180 : decode cX12_load 180 = .ok (.aload_n 0, 1) := by decide +kernel
theorem dX12_load_181 : decode cX12_load 181 = .ok (.iconst 0, 1) := by decide +kernel
theorem dX12_load_182 : decode cX12_load 182 = .ok (.putfield 189, 3) := by decide +kernel
theorem dX12_load_185 : decode cX12_load 185 = .ok (.aload_n 0, 1) := by decide +kernel
theorem dX12_load_186 : decode cX12_load 186 = .ok (.invokevirtual 142, 3) := by decide +kernel
theorem dX12_load_189 : decode cX12_load 189 = .ok (.ireturn, 1) := by decide +kernel
def f_X12_load_156 (N : Nat) (R : Nat → Nat → Nat) : Nat → SI → Nat → Int32 → Option (Int32 × SI)
  | 0, _, _, _ => none
  | n + 1, σ, x0, x1 => if (84 : Int32) ≤ x1 then (sq (up σ x0 16 (0 : Int32)) (fun σ18 => bd (f_X12_blasts N R σ18 x0) (fun a19 σ19 => some (a19, σ19)))) else (ck x1 84 (ck x1 84 (sq (up σ (R x0 13) x1.toNatClampNeg (σ (R x0 14) x1.toNatClampNeg)) (fun σ24 => f_X12_load_156 N R n σ24 x0 (x1 + 1)))))
def f_X12_load_127 (N : Nat) (R : Nat → Nat → Nat) : Nat → SI → Nat → Int32 → Option (Int32 × SI)
  | 0, _, _, _ => none
  | n + 1, σ, x0, x1 => if (417 : Int32) ≤ x1 then (some ((0 : Int32), σ)) else (ck x1 417 (ck x1 417 (sq (up σ (R x0 11) x1.toNatClampNeg (σ (R x0 12) x1.toNatClampNeg)) (fun σ30 => f_X12_load_127 N R n σ30 x0 (x1 + 1)))))
def f_X12_load_97 (N : Nat) (R : Nat → Nat → Nat) (σ : SI) (x0 : Nat) : Option (Int32 × SI) := sq (up σ x0 9 (σ x0 7)) (fun σ12 => sq (up σ12 x0 10 (σ12 x0 8)) (fun σ13 => bd (f_X12_hasFailed N R σ13 x0) (fun a14 σ14 => bd (f_X12_throwsIf N R σ14 x0 a14 (1 : Int32)) (fun a15 σ15 => if a15 = 0 then (f_X12_load_156 N R N σ15 x0 (0 : Int32)) else (f_X12_load_127 N R N σ15 x0 (0 : Int32))))))
def f_X12_load_68 (N : Nat) (R : Nat → Nat → Nat) : Nat → SI → Nat → Option (Int32 × SI)
  | 0, _, _ => none
  | n + 1, σ, x0 => bd (f_X12_hasFailed N R σ x0) (fun a10 σ10 => if a10 = 0 then (if (σ10 x0 6) ≤ (σ10 x0 4) then (f_X12_load_97 N R σ10 x0) else (bd (f_X12_line N R σ10 x0) (fun _ σ32 => bd (f_X12_blanks N R σ32 x0) (fun _ σ33 => f_X12_load_68 N R n σ33 x0)))) else (f_X12_load_97 N R σ10 x0))
def f_X12_load_35 (N : Nat) (R : Nat → Nat → Nat) : Nat → SI → Nat → Int32 → Option (Int32 × SI)
  | 0, _, _, _ => none
  | n + 1, σ, x0, x1 => if (417 : Int32) ≤ x1 then (bd (f_X12_begins N R σ x0) (fun _ σ8 => bd (f_X12_blanks N R σ8 x0) (fun _ σ9 => f_X12_load_68 N R N σ9 x0))) else (ck x1 417 (ck x1 417 (sq (up σ (R x0 12) x1.toNatClampNeg (σ (R x0 11) x1.toNatClampNeg)) (fun σ38 => f_X12_load_35 N R n σ38 x0 (x1 + 1)))))
def f_X12_load (N : Nat) (R : Nat → Nat → Nat) (σ : SI) (x0 : Nat) : Option (Int32 × SI) := sq (up σ x0 0 (0 : Int32)) (fun σ1 => sq (up σ1 x0 6 (σ1 x0 3)) (fun σ2 => sq (up σ2 x0 3 (0 : Int32)) (fun σ3 => sq (up σ3 x0 4 (0 : Int32)) (fun σ4 => sq (up σ4 x0 7 (-1 : Int32)) (fun σ5 => sq (up σ5 x0 8 (0 : Int32)) (fun σ6 => f_X12_load_35 N R N σ6 x0 (0 : Int32)))))))
set_option maxHeartbeats 4000000 in
set_option maxRecDepth 100000 in
theorem w_X12_load_156 {l : Launch} {g : GL} {p : Program} {e : Jvm.Env} {s : State} {m : MethodId} {args : Array Value} {below : List Frame} {meth : Method} {c : Code} {R : Nat → Nat → Nat} {L : Nat → Nat → Int64} {r : (Int32 × SI)} {N : Nat} (C : Cx l g p s m meth c cX12_load 2 RX12) (hr : meth.sig.returnType = (some .int)) (hSh : ShR R) : ∀ (n : Nat) (σ : SI) (x0 : Nat) (x1 : Int32), f_X12_load_156 N R n σ x0 x1 = some r → Ok 194 x0 12 → ∀ (H : Heap) (locs : List Loc) (ls : Array Slot), S2 g s σ R L H locs → lv_has ls 2 [(0, .ref (gb g + x0)), (1, .int x1)] → W p l e (rmd 9 0 0) s m args below meth c H locs 0 0 (MQ below (Qg g 194 (PI R L r)) args s 0 0 (gA g)) (F0 m 156 ls []) := by
  have hx := C.1
  have hb := C.2.1
  intro n
  induction n with
  | zero =>
    intro σ x0 x1 h
    cases (show (none : Option (Int32 × SI)) = some r from h)
  | succ n ih =>
    intro σ x0 x1 h hx0 H locs ls S hl
    rw [f_X12_load_156] at h
    refine lv_iload_n hx hb dX12_load_156 rfl (lv_at hl 1 rfl) ?_
    refine lv_bipush (v := (84 : Int32)) hx hb dX12_load_157 (by decide) ?_
    refine lv_icmp_ge (tgt := 180) hx hb dX12_load_159 (by decide) (fun c17 => ?_) (fun c17 => ?_)
    · have h := it_p c17 h
      refine lv_aload_n hx hb dX12_load_180 rfl (lv_at hl 0 rfl) ?_
      refine lv_iconst (v := (0 : Int32)) hx hb dX12_load_181 (by decide) ?_
      obtain ⟨σ18, hs18, h⟩ := sq_el h
      refine x_putI C S KX12 hx0 16 (by decide) rfl rfl rfl ⟨rfl, rfl⟩ fl_RX12_189 dX12_load_182 hs18 (fun H locs S => ?_)
      refine lv_aload_n hx hb dX12_load_185 rfl (lv_at hl 0 rfl) ?_
      obtain ⟨a19, σ19, hc19, h⟩ := bd_el h
      refine x_callVI C S KX12 hx0 (ok_X12_blasts (L := L) hc19 hSh hx0) ⟨cd_X12_blasts, ni_RX12, ml_RX12_142, in_X12_blasts, sl_X12_blasts⟩ ⟨by decide, by decide⟩ rfl (rm_ok (by decide) (by decide)) hl.1 rfl (Nat.le_of_ble_eq_true rfl) ⟨by decide, by decide⟩ dX12_load_186 (fun H locs S => ?_)
      exact x_iret C S hr h dX12_load_189
    · have h := it_n c17 h
      refine lv_aload_n hx hb dX12_load_162 rfl (lv_at hl 0 rfl) ?_
      have hR20 : Ok 194 (R x0 13) 10084 := hSh x0 12 13 10084 hx0.1 rfl
      refine x_getR C S KX12 hx0 13 (by decide) rfl rfl fl_RX12_94 hR20 dX12_load_163 ?_
      refine lv_iload_n hx hb dX12_load_166 rfl (lv_at hl 1 rfl) ?_
      refine lv_aload_n hx hb dX12_load_167 rfl (lv_at hl 0 rfl) ?_
      have hR21 : Ok 194 (R x0 14) 10084 := hSh x0 12 14 10084 hx0.1 rfl
      refine x_getR C S KX12 hx0 14 (by decide) rfl rfl fl_RX12_97 hR21 dX12_load_168 ?_
      refine lv_iload_n hx hb dX12_load_171 rfl (lv_at hl 1 rfl) ?_
      obtain ⟨hi22, h⟩ := ck_el h
      refine x_iald (len := 84) C S (by decide) hR21 hi22 dX12_load_172 ?_
      obtain ⟨hi23, h⟩ := ck_el h
      obtain ⟨σ24, hs24, h⟩ := sq_el h
      refine x_iast (len := 84) C S (by decide) hR20 hi23 dX12_load_173 hs24 (fun H locs S => ?_)
      refine lv_iinc (v := x1 + 1) (lv' := [(1, .int (x1 + 1)), (0, .ref (gb g + x0))]) hx hb dX12_load_174 hl (k := 1) rfl rfl (by decide) rfl (fun ls hl => ?_)
      refine lv_goto (tgt := 156) hx hb dX12_load_177 (by decide) ?_
      exact ih σ24 x0 (x1 + 1) h hx0 H locs ls S (lv_sub hl [1, 0] rfl)
set_option maxHeartbeats 4000000 in
set_option maxRecDepth 100000 in
theorem w_X12_load_127 {l : Launch} {g : GL} {p : Program} {e : Jvm.Env} {s : State} {m : MethodId} {args : Array Value} {below : List Frame} {meth : Method} {c : Code} {R : Nat → Nat → Nat} {L : Nat → Nat → Int64} {r : (Int32 × SI)} {N : Nat} (C : Cx l g p s m meth c cX12_load 2 RX12) (hr : meth.sig.returnType = (some .int)) (hSh : ShR R) : ∀ (n : Nat) (σ : SI) (x0 : Nat) (x1 : Int32), f_X12_load_127 N R n σ x0 x1 = some r → Ok 194 x0 12 → ∀ (H : Heap) (locs : List Loc) (ls : Array Slot), S2 g s σ R L H locs → lv_has ls 2 [(0, .ref (gb g + x0)), (1, .int x1)] → W p l e (rmd 9 0 0) s m args below meth c H locs 0 0 (MQ below (Qg g 194 (PI R L r)) args s 0 0 (gA g)) (F0 m 127 ls []) := by
  have hx := C.1
  have hb := C.2.1
  intro n
  induction n with
  | zero =>
    intro σ x0 x1 h
    cases (show (none : Option (Int32 × SI)) = some r from h)
  | succ n ih =>
    intro σ x0 x1 h hx0 H locs ls S hl
    rw [f_X12_load_127] at h
    refine lv_iload_n hx hb dX12_load_127 rfl (lv_at hl 1 rfl) ?_
    refine lv_sipush (v := (417 : Int32)) hx hb dX12_load_128 (by decide) ?_
    refine lv_icmp_ge (tgt := 152) hx hb dX12_load_131 (by decide) (fun c25 => ?_) (fun c25 => ?_)
    · have h := it_p c25 h
      refine lv_iconst (v := (0 : Int32)) hx hb dX12_load_152 (by decide) ?_
      exact x_iret C S hr h dX12_load_153
    · have h := it_n c25 h
      refine lv_aload_n hx hb dX12_load_134 rfl (lv_at hl 0 rfl) ?_
      have hR26 : Ok 194 (R x0 11) 10417 := hSh x0 12 11 10417 hx0.1 rfl
      refine x_getR C S KX12 hx0 11 (by decide) rfl rfl fl_RX12_88 hR26 dX12_load_135 ?_
      refine lv_iload_n hx hb dX12_load_138 rfl (lv_at hl 1 rfl) ?_
      refine lv_aload_n hx hb dX12_load_139 rfl (lv_at hl 0 rfl) ?_
      have hR27 : Ok 194 (R x0 12) 10417 := hSh x0 12 12 10417 hx0.1 rfl
      refine x_getR C S KX12 hx0 12 (by decide) rfl rfl fl_RX12_91 hR27 dX12_load_140 ?_
      refine lv_iload_n hx hb dX12_load_143 rfl (lv_at hl 1 rfl) ?_
      obtain ⟨hi28, h⟩ := ck_el h
      refine x_iald (len := 417) C S (by decide) hR27 hi28 dX12_load_144 ?_
      obtain ⟨hi29, h⟩ := ck_el h
      obtain ⟨σ30, hs30, h⟩ := sq_el h
      refine x_iast (len := 417) C S (by decide) hR26 hi29 dX12_load_145 hs30 (fun H locs S => ?_)
      refine lv_iinc (v := x1 + 1) (lv' := [(1, .int (x1 + 1)), (0, .ref (gb g + x0))]) hx hb dX12_load_146 hl (k := 1) rfl rfl (by decide) rfl (fun ls hl => ?_)
      refine lv_goto (tgt := 127) hx hb dX12_load_149 (by decide) ?_
      exact ih σ30 x0 (x1 + 1) h hx0 H locs ls S (lv_sub hl [1, 0] rfl)
set_option maxHeartbeats 4000000 in
set_option maxRecDepth 100000 in
theorem w_X12_load_97 {l : Launch} {g : GL} {p : Program} {e : Jvm.Env} {s : State} {m : MethodId} {args : Array Value} {below : List Frame} {meth : Method} {c : Code} {R : Nat → Nat → Nat} {L : Nat → Nat → Int64} {r : (Int32 × SI)} {N : Nat} (C : Cx l g p s m meth c cX12_load 2 RX12) (hr : meth.sig.returnType = (some .int)) (hSh : ShR R) : ∀ (σ : SI) (x0 : Nat), f_X12_load_97 N R σ x0 = some r → Ok 194 x0 12 → ∀ (H : Heap) (locs : List Loc) (ls : Array Slot), S2 g s σ R L H locs → lv_has ls 2 [(0, .ref (gb g + x0))] → W p l e (rmd 9 0 0) s m args below meth c H locs 0 0 (MQ below (Qg g 194 (PI R L r)) args s 0 0 (gA g)) (F0 m 97 ls []) := by
  have hx := C.1
  have hb := C.2.1
  intro σ x0 h hx0 H locs ls S hl
  rw [f_X12_load_97] at h
  refine lv_aload_n hx hb dX12_load_97 rfl (lv_at hl 0 rfl) ?_
  refine lv_aload_n hx hb dX12_load_98 rfl (lv_at hl 0 rfl) ?_
  refine x_getI C S KX12 hx0 7 (by decide) rfl rfl fl_RX12_24 dX12_load_99 ?_
  obtain ⟨σ12, hs12, h⟩ := sq_el h
  refine x_putI C S KX12 hx0 9 (by decide) rfl rfl rfl ⟨rfl, rfl⟩ fl_RX12_18 dX12_load_102 hs12 (fun H locs S => ?_)
  refine lv_aload_n hx hb dX12_load_105 rfl (lv_at hl 0 rfl) ?_
  refine lv_aload_n hx hb dX12_load_106 rfl (lv_at hl 0 rfl) ?_
  refine x_getI C S KX12 hx0 8 (by decide) rfl rfl fl_RX12_44 dX12_load_107 ?_
  obtain ⟨σ13, hs13, h⟩ := sq_el h
  refine x_putI C S KX12 hx0 10 (by decide) rfl rfl rfl ⟨rfl, rfl⟩ fl_RX12_21 dX12_load_110 hs13 (fun H locs S => ?_)
  refine lv_aload_n hx hb dX12_load_113 rfl (lv_at hl 0 rfl) ?_
  refine lv_aload_n hx hb dX12_load_114 rfl (lv_at hl 0 rfl) ?_
  obtain ⟨a14, σ14, hc14, h⟩ := bd_el h
  refine x_callVI C S KX12 hx0 (ok_X12_hasFailed (L := L) hc14 hSh hx0) ⟨cd_X12_hasFailed, ni_RX12, ml_RX12_40, in_X12_hasFailed, sl_X12_hasFailed⟩ ⟨by decide, by decide⟩ rfl (rm_ok (by decide) (by decide)) hl.1 rfl (Nat.le_of_ble_eq_true rfl) ⟨by decide, by decide⟩ dX12_load_115 (fun H locs S => ?_)
  refine lv_iconst (v := (1 : Int32)) hx hb dX12_load_118 (by decide) ?_
  obtain ⟨a15, σ15, hc15, h⟩ := bd_el h
  refine x_callVI C S KX12 hx0 (ok_X12_throwsIf (L := L) hc15 hSh hx0) ⟨cd_X12_throwsIf, ni_RX12, ml_RX12_185, in_X12_throwsIf, sl_X12_throwsIf⟩ ⟨by decide, by decide⟩ rfl (rm_ok (by decide) (by decide)) hl.1 rfl (Nat.le_of_ble_eq_true rfl) ⟨by decide, by decide⟩ dX12_load_119 (fun H locs S => ?_)
  refine lv_if_eq (tgt := 154) hx hb dX12_load_122 (by decide) (fun c16 => ?_) (fun c16 => ?_)
  · have h := it_p c16 h
    refine lv_iconst (v := (0 : Int32)) hx hb dX12_load_154 (by decide) ?_
    refine lv_istore_n (lv' := [(1, .int (0 : Int32)), (0, .ref (gb g + x0))]) hx hb dX12_load_155 rfl hl (by decide) rfl (fun ls hl => ?_)
    exact w_X12_load_156 C hr hSh N σ15 x0 (0 : Int32) h hx0 H locs ls S (lv_sub hl [1, 0] rfl)
  · have h := it_n c16 h
    refine lv_iconst (v := (0 : Int32)) hx hb dX12_load_125 (by decide) ?_
    refine lv_istore_n (lv' := [(1, .int (0 : Int32)), (0, .ref (gb g + x0))]) hx hb dX12_load_126 rfl hl (by decide) rfl (fun ls hl => ?_)
    exact w_X12_load_127 C hr hSh N σ15 x0 (0 : Int32) h hx0 H locs ls S (lv_sub hl [1, 0] rfl)
set_option maxHeartbeats 4000000 in
set_option maxRecDepth 100000 in
theorem w_X12_load_68 {l : Launch} {g : GL} {p : Program} {e : Jvm.Env} {s : State} {m : MethodId} {args : Array Value} {below : List Frame} {meth : Method} {c : Code} {R : Nat → Nat → Nat} {L : Nat → Nat → Int64} {r : (Int32 × SI)} {N : Nat} (C : Cx l g p s m meth c cX12_load 2 RX12) (hr : meth.sig.returnType = (some .int)) (hSh : ShR R) : ∀ (n : Nat) (σ : SI) (x0 : Nat), f_X12_load_68 N R n σ x0 = some r → Ok 194 x0 12 → ∀ (H : Heap) (locs : List Loc) (ls : Array Slot), S2 g s σ R L H locs → lv_has ls 2 [(0, .ref (gb g + x0))] → W p l e (rmd 9 0 0) s m args below meth c H locs 0 0 (MQ below (Qg g 194 (PI R L r)) args s 0 0 (gA g)) (F0 m 68 ls []) := by
  have hx := C.1
  have hb := C.2.1
  intro n
  induction n with
  | zero =>
    intro σ x0 h
    cases (show (none : Option (Int32 × SI)) = some r from h)
  | succ n ih =>
    intro σ x0 h hx0 H locs ls S hl
    rw [f_X12_load_68] at h
    refine lv_aload_n hx hb dX12_load_68 rfl (lv_at hl 0 rfl) ?_
    obtain ⟨a10, σ10, hc10, h⟩ := bd_el h
    refine x_callVI C S KX12 hx0 (ok_X12_hasFailed (L := L) hc10 hSh hx0) ⟨cd_X12_hasFailed, ni_RX12, ml_RX12_40, in_X12_hasFailed, sl_X12_hasFailed⟩ ⟨by decide, by decide⟩ rfl (rm_ok (by decide) (by decide)) hl.1 rfl (Nat.le_of_ble_eq_true rfl) ⟨by decide, by decide⟩ dX12_load_69 (fun H locs S => ?_)
    refine lv_if_ne (tgt := 97) hx hb dX12_load_72 (by decide) (fun c11 => ?_) (fun c11 => ?_)
    · have h := it_n c11 h
      exact w_X12_load_97 C hr hSh σ10 x0 h hx0 H locs ls S (lv_sub hl [0] rfl)
    · have h := it_p c11 h
      refine lv_aload_n hx hb dX12_load_75 rfl (lv_at hl 0 rfl) ?_
      refine x_getI C S KX12 hx0 4 (by decide) rfl rfl fl_RX12_27 dX12_load_76 ?_
      refine lv_aload_n hx hb dX12_load_79 rfl (lv_at hl 0 rfl) ?_
      refine x_getI C S KX12 hx0 6 (by decide) rfl rfl fl_RX12_30 dX12_load_80 ?_
      refine lv_icmp_ge (tgt := 97) hx hb dX12_load_83 (by decide) (fun c31 => ?_) (fun c31 => ?_)
      · have h := it_p c31 h
        exact w_X12_load_97 C hr hSh σ10 x0 h hx0 H locs ls S (lv_sub hl [0] rfl)
      · have h := it_n c31 h
        refine lv_aload_n hx hb dX12_load_86 rfl (lv_at hl 0 rfl) ?_
        obtain ⟨a32, σ32, hc32, h⟩ := bd_el h
        refine x_callVV C S KX12 hx0 (ok_X12_line (L := L) hc32 hSh hx0) ⟨cd_X12_line, ni_RX12, ml_RX12_182, in_X12_line, sl_X12_line⟩ ⟨by decide, by decide⟩ rfl (rm_ok (by decide) (by decide)) hl.1 rfl (Nat.le_of_ble_eq_true rfl) ⟨by decide, by decide⟩ dX12_load_87 (fun H locs S => ?_)
        refine lv_aload_n hx hb dX12_load_90 rfl (lv_at hl 0 rfl) ?_
        obtain ⟨a33, σ33, hc33, h⟩ := bd_el h
        refine x_callVV C S KX12 hx0 (ok_X12_blanks (L := L) hc33 hSh hx0) ⟨cd_X12_blanks, ni_RX12, ml_RX12_47, in_X12_blanks, sl_X12_blanks⟩ ⟨by decide, by decide⟩ rfl (rm_ok (by decide) (by decide)) hl.1 rfl (Nat.le_of_ble_eq_true rfl) ⟨by decide, by decide⟩ dX12_load_91 (fun H locs S => ?_)
        refine lv_goto (tgt := 68) hx hb dX12_load_94 (by decide) ?_
        exact ih σ33 x0 h hx0 H locs ls S (lv_sub hl [0] rfl)
set_option maxHeartbeats 4000000 in
set_option maxRecDepth 100000 in
theorem w_X12_load_35 {l : Launch} {g : GL} {p : Program} {e : Jvm.Env} {s : State} {m : MethodId} {args : Array Value} {below : List Frame} {meth : Method} {c : Code} {R : Nat → Nat → Nat} {L : Nat → Nat → Int64} {r : (Int32 × SI)} {N : Nat} (C : Cx l g p s m meth c cX12_load 2 RX12) (hr : meth.sig.returnType = (some .int)) (hSh : ShR R) : ∀ (n : Nat) (σ : SI) (x0 : Nat) (x1 : Int32), f_X12_load_35 N R n σ x0 x1 = some r → Ok 194 x0 12 → ∀ (H : Heap) (locs : List Loc) (ls : Array Slot), S2 g s σ R L H locs → lv_has ls 2 [(0, .ref (gb g + x0)), (1, .int x1)] → W p l e (rmd 9 0 0) s m args below meth c H locs 0 0 (MQ below (Qg g 194 (PI R L r)) args s 0 0 (gA g)) (F0 m 35 ls []) := by
  have hx := C.1
  have hb := C.2.1
  intro n
  induction n with
  | zero =>
    intro σ x0 x1 h
    cases (show (none : Option (Int32 × SI)) = some r from h)
  | succ n ih =>
    intro σ x0 x1 h hx0 H locs ls S hl
    rw [f_X12_load_35] at h
    refine lv_iload_n hx hb dX12_load_35 rfl (lv_at hl 1 rfl) ?_
    refine lv_sipush (v := (417 : Int32)) hx hb dX12_load_36 (by decide) ?_
    refine lv_icmp_ge (tgt := 60) hx hb dX12_load_39 (by decide) (fun c7 => ?_) (fun c7 => ?_)
    · have h := it_p c7 h
      refine lv_aload_n hx hb dX12_load_60 rfl (lv_at hl 0 rfl) ?_
      obtain ⟨a8, σ8, hc8, h⟩ := bd_el h
      refine x_callVV C S KX12 hx0 (ok_X12_begins (L := L) hc8 hSh hx0) ⟨cd_X12_begins, ni_RX12, ml_RX12_128, in_X12_begins, sl_X12_begins⟩ ⟨by decide, by decide⟩ rfl (rm_ok (by decide) (by decide)) hl.1 rfl (Nat.le_of_ble_eq_true rfl) ⟨by decide, by decide⟩ dX12_load_61 (fun H locs S => ?_)
      refine lv_aload_n hx hb dX12_load_64 rfl (lv_at hl 0 rfl) ?_
      obtain ⟨a9, σ9, hc9, h⟩ := bd_el h
      refine x_callVV C S KX12 hx0 (ok_X12_blanks (L := L) hc9 hSh hx0) ⟨cd_X12_blanks, ni_RX12, ml_RX12_47, in_X12_blanks, sl_X12_blanks⟩ ⟨by decide, by decide⟩ rfl (rm_ok (by decide) (by decide)) hl.1 rfl (Nat.le_of_ble_eq_true rfl) ⟨by decide, by decide⟩ dX12_load_65 (fun H locs S => ?_)
      exact w_X12_load_68 C hr hSh N σ9 x0 h hx0 H locs ls S (lv_sub hl [0] rfl)
    · have h := it_n c7 h
      refine lv_aload_n hx hb dX12_load_42 rfl (lv_at hl 0 rfl) ?_
      have hR34 : Ok 194 (R x0 12) 10417 := hSh x0 12 12 10417 hx0.1 rfl
      refine x_getR C S KX12 hx0 12 (by decide) rfl rfl fl_RX12_91 hR34 dX12_load_43 ?_
      refine lv_iload_n hx hb dX12_load_46 rfl (lv_at hl 1 rfl) ?_
      refine lv_aload_n hx hb dX12_load_47 rfl (lv_at hl 0 rfl) ?_
      have hR35 : Ok 194 (R x0 11) 10417 := hSh x0 12 11 10417 hx0.1 rfl
      refine x_getR C S KX12 hx0 11 (by decide) rfl rfl fl_RX12_88 hR35 dX12_load_48 ?_
      refine lv_iload_n hx hb dX12_load_51 rfl (lv_at hl 1 rfl) ?_
      obtain ⟨hi36, h⟩ := ck_el h
      refine x_iald (len := 417) C S (by decide) hR35 hi36 dX12_load_52 ?_
      obtain ⟨hi37, h⟩ := ck_el h
      obtain ⟨σ38, hs38, h⟩ := sq_el h
      refine x_iast (len := 417) C S (by decide) hR34 hi37 dX12_load_53 hs38 (fun H locs S => ?_)
      refine lv_iinc (v := x1 + 1) (lv' := [(1, .int (x1 + 1)), (0, .ref (gb g + x0))]) hx hb dX12_load_54 hl (k := 1) rfl rfl (by decide) rfl (fun ls hl => ?_)
      refine lv_goto (tgt := 35) hx hb dX12_load_57 (by decide) ?_
      exact ih σ38 x0 (x1 + 1) h hx0 H locs ls S (lv_sub hl [1, 0] rfl)
set_option maxHeartbeats 4000000 in
set_option maxRecDepth 100000 in
theorem ok_X12_load {l : Launch} {g : GL} {R : Nat → Nat → Nat} {L : Nat → Nat → Int64} {N : Nat} {σ : SI} {x0 : Nat} {r : (Int32 × SI)} (h : f_X12_load N R σ x0 = some r) (hSh : ShR R) (hx0 : Ok 194 x0 12) : Ct l g 9 yX12_load cX12_load 2 (some .int) 194 194 0 0 [.ref (gb g + x0)] (mkS σ R L) (PI R L r) := by
  refine Met.ofW (cc := cX12_load) (maxL := 2) (ret := (some .int)) (by decide) rfl ?_
  intro p e s m args below meth c s₁ B hml hv
  obtain ⟨rfl, hE, hLo, hWd⟩ := hv
  have hr : meth.sig.returnType = (some .int) := B.returns
  have C : Cx l g p s m meth c cX12_load 2 RX12 := ⟨B.exec, B.bytes, hml, findClass_of_methodNamed B.named, hE, hLo, B.notSynchronized⟩
  have S : S2 g s σ R L s.heap [] := ⟨hWd, va_S.rf⟩
  have hx := C.1
  have hb := C.2.1
  have hl := lv_entry ([.ref (gb g + x0)]) (n := 2) (Nat.le_of_ble_eq_true rfl)
  rw [lg_entry_eq]
  generalize (lg_sl ([.ref (gb g + x0)]) ++ List.replicate (2 - (lg_sl ([.ref (gb g + x0)])).length) Slot.unset).toArray = ls at hl ⊢
  have hl : lv_has ls 2 [(0, .ref (gb g + x0))] := hl
  generalize hH : s.heap = H at S ⊢
  generalize hlc : ([] : List Loc) = locs at S ⊢
  rw [f_X12_load] at h
  refine lv_aload_n hx hb dX12_load_0 rfl (lv_at hl 0 rfl) ?_
  refine lv_iconst (v := (0 : Int32)) hx hb dX12_load_1 (by decide) ?_
  obtain ⟨σ1, hs1, h⟩ := sq_el h
  refine x_putI C S KX12 hx0 0 (by decide) rfl rfl rfl ⟨rfl, rfl⟩ fl_RX12_3 dX12_load_2 hs1 (fun H locs S => ?_)
  refine lv_aload_n hx hb dX12_load_5 rfl (lv_at hl 0 rfl) ?_
  refine lv_aload_n hx hb dX12_load_6 rfl (lv_at hl 0 rfl) ?_
  refine x_getI C S KX12 hx0 3 (by decide) rfl rfl fl_RX12_7 dX12_load_7 ?_
  obtain ⟨σ2, hs2, h⟩ := sq_el h
  refine x_putI C S KX12 hx0 6 (by decide) rfl rfl rfl ⟨rfl, rfl⟩ fl_RX12_30 dX12_load_10 hs2 (fun H locs S => ?_)
  refine lv_aload_n hx hb dX12_load_13 rfl (lv_at hl 0 rfl) ?_
  refine lv_iconst (v := (0 : Int32)) hx hb dX12_load_14 (by decide) ?_
  obtain ⟨σ3, hs3, h⟩ := sq_el h
  refine x_putI C S KX12 hx0 3 (by decide) rfl rfl rfl ⟨rfl, rfl⟩ fl_RX12_7 dX12_load_15 hs3 (fun H locs S => ?_)
  refine lv_aload_n hx hb dX12_load_18 rfl (lv_at hl 0 rfl) ?_
  refine lv_iconst (v := (0 : Int32)) hx hb dX12_load_19 (by decide) ?_
  obtain ⟨σ4, hs4, h⟩ := sq_el h
  refine x_putI C S KX12 hx0 4 (by decide) rfl rfl rfl ⟨rfl, rfl⟩ fl_RX12_27 dX12_load_20 hs4 (fun H locs S => ?_)
  refine lv_aload_n hx hb dX12_load_23 rfl (lv_at hl 0 rfl) ?_
  refine lv_iconst (v := (-1 : Int32)) hx hb dX12_load_24 (by decide) ?_
  obtain ⟨σ5, hs5, h⟩ := sq_el h
  refine x_putI C S KX12 hx0 7 (by decide) rfl rfl rfl ⟨rfl, rfl⟩ fl_RX12_24 dX12_load_25 hs5 (fun H locs S => ?_)
  refine lv_aload_n hx hb dX12_load_28 rfl (lv_at hl 0 rfl) ?_
  refine lv_iconst (v := (0 : Int32)) hx hb dX12_load_29 (by decide) ?_
  obtain ⟨σ6, hs6, h⟩ := sq_el h
  refine x_putI C S KX12 hx0 8 (by decide) rfl rfl rfl ⟨rfl, rfl⟩ fl_RX12_44 dX12_load_30 hs6 (fun H locs S => ?_)
  refine lv_iconst (v := (0 : Int32)) hx hb dX12_load_33 (by decide) ?_
  refine lv_istore_n (lv' := [(1, .int (0 : Int32)), (0, .ref (gb g + x0))]) hx hb dX12_load_34 rfl hl (by decide) rfl (fun ls hl => ?_)
  exact w_X12_load_35 C hr hSh N σ6 x0 (0 : Int32) h hx0 H locs ls S (lv_sub hl [1, 0] rfl)
theorem dX12_saysNumber_0 : decode cX12_saysNumber 0 = .ok (.iload_n 1, 1) := by decide +kernel
theorem dX12_saysNumber_1 : decode cX12_saysNumber 1 = .ok (.bipush 9, 2) := by decide +kernel
theorem dX12_saysNumber_3 : decode cX12_saysNumber 3 = .ok (.if_icmp .le 11, 3) := by decide +kernel
theorem dX12_saysNumber_6 : decode cX12_saysNumber 6 = .ok (.aload_n 0, 1) := by decide +kernel
theorem dX12_saysNumber_7 : decode cX12_saysNumber 7 = .ok (.iload_n 1, 1) := by decide +kernel
theorem dX12_saysNumber_8 : decode cX12_saysNumber 8 = .ok (.bipush 10, 2) := by decide +kernel
theorem dX12_saysNumber_10 : decode cX12_saysNumber 10 = .ok (.idiv, 1) := by decide +kernel
theorem dX12_saysNumber_11 : decode cX12_saysNumber 11 = .ok (.invokevirtual 369, 3) := by decide +kernel
theorem dX12_saysNumber_14 : decode cX12_saysNumber 14 = .ok (.aload_n 0, 1) := by decide +kernel
theorem dX12_saysNumber_15 : decode cX12_saysNumber 15 = .ok (.bipush 48, 2) := by decide +kernel
theorem dX12_saysNumber_17 : decode cX12_saysNumber 17 = .ok (.iload_n 1, 1) := by decide +kernel
theorem dX12_saysNumber_18 : decode cX12_saysNumber 18 = .ok (.bipush 10, 2) := by decide +kernel
theorem dX12_saysNumber_20 : decode cX12_saysNumber 20 = .ok (.irem, 1) := by decide +kernel
theorem dX12_saysNumber_21 : decode cX12_saysNumber 21 = .ok (.iadd, 1) := by decide +kernel
theorem dX12_saysNumber_22 : decode cX12_saysNumber 22 = .ok (.invokevirtual 372, 3) := by decide +kernel
theorem dX12_saysNumber_25 : decode cX12_saysNumber 25 = .ok (.return_, 1) := by decide +kernel
def f_X12_saysNumber_14 (N : Nat) (R : Nat → Nat → Nat) (kr : SI → Nat → Int32 → Option (Unit × SI)) (σ : SI) (x0 : Nat) (x1 : Int32) : Option (Unit × SI) := bd (f_X12_says N R σ x0 ((48 : Int32) + (x1 - x1 / (10 : Int32) * (10 : Int32)))) (fun _ σ2 => some ((), σ2))
def f_X12_saysNumber (N : Nat) (R : Nat → Nat → Nat) : Nat → SI → Nat → Int32 → Option (Unit × SI)
  | 0, _, _, _ => none
  | d + 1, σ, x0, x1 => if x1 ≤ (9 : Int32) then (f_X12_saysNumber_14 N R (fun σ x0 x1 => f_X12_saysNumber N R d σ x0 x1) σ x0 x1) else (bd (f_X12_saysNumber N R d σ x0 (x1 / (10 : Int32))) (fun _ σ3 => f_X12_saysNumber_14 N R (fun σ x0 x1 => f_X12_saysNumber N R d σ x0 x1) σ3 x0 x1))
set_option maxHeartbeats 4000000 in
set_option maxRecDepth 100000 in
theorem w_X12_saysNumber_14 {l : Launch} {g : GL} {p : Program} {e : Jvm.Env} {s : State} {m : MethodId} {args : Array Value} {below : List Frame} {meth : Method} {c : Code} {d : Nat} {R : Nat → Nat → Nat} {L : Nat → Nat → Int64} {r : (Unit × SI)} {N : Nat} {kr : SI → Nat → Int32 → Option (Unit × SI)} (C : Cx l g p s m meth c cX12_saysNumber 2 RX12) (hr : meth.sig.returnType = none) (hSh : ShR R) (hkr : ∀ (σ : SI) (x0 : Nat) (x1 : Int32) (r : (Unit × SI)), kr σ x0 x1 = some r → Ok 194 x0 12 → Ct l g (2 + d) yX12_saysNumber cX12_saysNumber 2 none 194 194 0 0 [.ref (gb g + x0), .int x1] (mkS σ R L) (PV R L r)) : ∀ (σ : SI) (x0 : Nat) (x1 : Int32), f_X12_saysNumber_14 N R kr σ x0 x1 = some r → Ok 194 x0 12 → ∀ (H : Heap) (locs : List Loc) (ls : Array Slot), S2 g s σ R L H locs → lv_has ls 2 [(0, .ref (gb g + x0)), (1, .int x1)] → W p l e (rmd (2 + d + 1) 0 0) s m args below meth c H locs 0 0 (MQ below (Qg g 194 (PV R L r)) args s 0 0 (gA g)) (F0 m 14 ls []) := by
  have hx := C.1
  have hb := C.2.1
  intro σ x0 x1 h hx0 H locs ls S hl
  rw [f_X12_saysNumber_14] at h
  refine lv_aload_n hx hb dX12_saysNumber_14 rfl (lv_at hl 0 rfl) ?_
  refine lv_bipush (v := (48 : Int32)) hx hb dX12_saysNumber_15 (by decide) ?_
  refine lv_iload_n hx hb dX12_saysNumber_17 rfl (lv_at hl 1 rfl) ?_
  refine lv_bipush (v := (10 : Int32)) hx hb dX12_saysNumber_18 (by decide) ?_
  refine lv_irem hx hb dX12_saysNumber_20 (by decide) ?_
  refine lv_iadd hx hb dX12_saysNumber_21 ?_
  obtain ⟨a2, σ2, hc2, h⟩ := bd_el h
  refine x_callVV C S KX12 hx0 (ok_X12_says (L := L) hc2 hSh hx0) ⟨cd_X12_says, ni_RX12, ml_RX12_372, in_X12_says, sl_X12_says⟩ ⟨by decide, by decide⟩ rfl (rm_ok (by omega) (by decide)) hl.1 rfl (Nat.le_of_ble_eq_true rfl) ⟨Nat.le_of_ble_eq_true rfl, Nat.le_of_ble_eq_true rfl⟩ dX12_saysNumber_22 (fun H locs S => ?_)
  exact x_vret C S hr h dX12_saysNumber_25
set_option maxHeartbeats 4000000 in
set_option maxRecDepth 100000 in
theorem ok_X12_saysNumber {l : Launch} {g : GL} {R : Nat → Nat → Nat} {L : Nat → Nat → Int64} {N : Nat} (d : Nat) : ∀ {σ : SI} {x0 : Nat} {x1 : Int32} {r : (Unit × SI)} (h : f_X12_saysNumber N R d σ x0 x1 = some r) (hSh : ShR R) (hx0 : Ok 194 x0 12), Ct l g (2 + d) yX12_saysNumber cX12_saysNumber 2 none 194 194 0 0 [.ref (gb g + x0), .int x1] (mkS σ R L) (PV R L r) := by
  induction d with
  | zero =>
    intro σ x0 x1 r h
    cases (show (none : Option (Unit × SI)) = some r from h)
  | succ d ihd =>
    intro σ x0 x1 r h hSh hx0
    have hkr : ∀ (σ : SI) (x0 : Nat) (x1 : Int32) (r : (Unit × SI)), f_X12_saysNumber N R d σ x0 x1 = some r → Ok 194 x0 12 → Ct l g (2 + d) yX12_saysNumber cX12_saysNumber 2 none 194 194 0 0 [.ref (gb g + x0), .int x1] (mkS σ R L) (PV R L r) := fun σ x0 x1 r h hx0 => ihd h hSh hx0
    refine Met.ofW (cc := cX12_saysNumber) (maxL := 2) (ret := none) (by decide) rfl ?_
    intro p e s m args below meth c s₁ B hml hv
    obtain ⟨rfl, hE, hLo, hWd⟩ := hv
    have hr : meth.sig.returnType = none := B.returns
    have C : Cx l g p s m meth c cX12_saysNumber 2 RX12 := ⟨B.exec, B.bytes, hml, findClass_of_methodNamed B.named, hE, hLo, B.notSynchronized⟩
    have S : S2 g s σ R L s.heap [] := ⟨hWd, va_S.rf⟩
    have hx := C.1
    have hb := C.2.1
    have hl := lv_entry ([.ref (gb g + x0), .int x1]) (n := 2) (Nat.le_of_ble_eq_true rfl)
    rw [lg_entry_eq]
    generalize (lg_sl ([.ref (gb g + x0), .int x1]) ++ List.replicate (2 - (lg_sl ([.ref (gb g + x0), .int x1])).length) Slot.unset).toArray = ls at hl ⊢
    have hl : lv_has ls 2 [(0, .ref (gb g + x0)), (1, .int x1)] := hl
    generalize hH : s.heap = H at S ⊢
    generalize hlc : ([] : List Loc) = locs at S ⊢
    rw [f_X12_saysNumber] at h
    refine lv_iload_n hx hb dX12_saysNumber_0 rfl (lv_at hl 1 rfl) ?_
    refine lv_bipush (v := (9 : Int32)) hx hb dX12_saysNumber_1 (by decide) ?_
    refine lv_icmp_le (tgt := 14) hx hb dX12_saysNumber_3 (by decide) (fun c1 => ?_) (fun c1 => ?_)
    · have h := it_p c1 h
      exact w_X12_saysNumber_14 C hr hSh hkr σ x0 x1 h hx0 H locs ls S (lv_sub hl [0, 1] rfl)
    · have h := it_n c1 h
      refine lv_aload_n hx hb dX12_saysNumber_6 rfl (lv_at hl 0 rfl) ?_
      refine lv_iload_n hx hb dX12_saysNumber_7 rfl (lv_at hl 1 rfl) ?_
      refine lv_bipush (v := (10 : Int32)) hx hb dX12_saysNumber_8 (by decide) ?_
      refine lv_idiv hx hb dX12_saysNumber_10 (by decide) ?_
      obtain ⟨a3, σ3, hc3, h⟩ := bd_el h
      refine x_callVV C S KX12 hx0 (hkr σ x0 (x1 / (10 : Int32)) (a3, σ3) hc3 hx0) ⟨cd_X12_saysNumber, ni_RX12, ml_RX12_369, in_X12_saysNumber, sl_X12_saysNumber⟩ ⟨by decide, by decide⟩ rfl (rm_ok (by omega) (by decide)) hl.1 rfl (Nat.le_of_ble_eq_true rfl) ⟨Nat.le_of_ble_eq_true rfl, Nat.le_of_ble_eq_true rfl⟩ dX12_saysNumber_11 (fun H locs S => ?_)
      exact w_X12_saysNumber_14 C hr hSh hkr σ3 x0 x1 h hx0 H locs ls S (lv_sub hl [0, 1] rfl)
theorem dX12_saysWord_0 : decode cX12_saysWord 0 = .ok (.iconst 0, 1) := by decide +kernel
theorem dX12_saysWord_1 : decode cX12_saysWord 1 = .ok (.istore_n 2, 1) := by decide +kernel
theorem dX12_saysWord_2 : decode cX12_saysWord 2 = .ok (.iload_n 2, 1) := by decide +kernel
theorem dX12_saysWord_3 : decode cX12_saysWord 3 = .ok (.aload_n 1, 1) := by decide +kernel
theorem dX12_saysWord_4 : decode cX12_saysWord 4 = .ok (.invokevirtual 55, 3) := by decide +kernel
theorem dX12_saysWord_7 : decode cX12_saysWord 7 = .ok (.if_icmp .ge 18, 3) := by decide +kernel
theorem dX12_saysWord_10 : decode cX12_saysWord 10 = .ok (.aload_n 0, 1) := by decide +kernel
theorem dX12_saysWord_11 : decode cX12_saysWord 11 = .ok (.aload_n 1, 1) := by decide +kernel
theorem dX12_saysWord_12 : decode cX12_saysWord 12 = .ok (.iload_n 2, 1) := by decide +kernel
theorem dX12_saysWord_13 : decode cX12_saysWord 13 = .ok (.invokevirtual 60, 3) := by decide +kernel
theorem dX12_saysWord_16 : decode cX12_saysWord 16 = .ok (.invokevirtual 372, 3) := by decide +kernel
theorem dX12_saysWord_19 : decode cX12_saysWord 19 = .ok (.iinc 2 1, 3) := by decide +kernel
theorem dX12_saysWord_22 : decode cX12_saysWord 22 = .ok (.goto (-20), 3) := by decide +kernel
theorem dX12_saysWord_25 : decode cX12_saysWord 25 = .ok (.return_, 1) := by decide +kernel
def f_X12_saysWord_2 (N : Nat) (R : Nat → Nat → Nat) : Nat → SI → Nat → Nat → Int32 → Option (Unit × SI)
  | 0, _, _, _, _ => none
  | n + 1, σ, x0, x1, x2 => if (lnS x1) ≤ x2 then (some ((), σ)) else (ck x2 (strLen.getD x1 0) (bd (f_X12_says N R σ x0 (chS x1 x2)) (fun _ σ3 => f_X12_saysWord_2 N R n σ3 x0 x1 (x2 + 1))))
def f_X12_saysWord (N : Nat) (R : Nat → Nat → Nat) (σ : SI) (x0 : Nat) (x1 : Nat) : Option (Unit × SI) := f_X12_saysWord_2 N R N σ x0 x1 (0 : Int32)
set_option maxHeartbeats 4000000 in
set_option maxRecDepth 100000 in
theorem w_X12_saysWord_2 {l : Launch} {g : GL} {p : Program} {e : Jvm.Env} {s : State} {m : MethodId} {args : Array Value} {below : List Frame} {meth : Method} {c : Code} {R : Nat → Nat → Nat} {L : Nat → Nat → Int64} {r : (Unit × SI)} {N : Nat} (C : Cx l g p s m meth c cX12_saysWord 3 RX12) (hr : meth.sig.returnType = none) (hSh : ShR R) : ∀ (n : Nat) (σ : SI) (x0 : Nat) (x1 : Nat) (x2 : Int32), f_X12_saysWord_2 N R n σ x0 x1 x2 = some r → Ok 194 x0 12 → x1 < 13 → ∀ (H : Heap) (locs : List Loc) (ls : Array Slot), S2 g s σ R L H locs → lv_has ls 3 [(0, .ref (gb g + x0)), (1, .ref (gS g x1)), (2, .int x2)] → W p l e (rmd 5 0 0) s m args below meth c H locs 0 0 (MQ below (Qg g 194 (PV R L r)) args s 0 0 (gA g)) (F0 m 2 ls []) := by
  have hx := C.1
  have hb := C.2.1
  intro n
  induction n with
  | zero =>
    intro σ x0 x1 x2 h
    cases (show (none : Option (Unit × SI)) = some r from h)
  | succ n ih =>
    intro σ x0 x1 x2 h hx0 hx1 H locs ls S hl
    rw [f_X12_saysWord_2] at h
    refine lv_iload_n hx hb dX12_saysWord_2 rfl (lv_at hl 2 rfl) ?_
    refine lv_aload_n hx hb dX12_saysWord_3 rfl (lv_at hl 1 rfl) ?_
    refine x_callJ C S hx1 (ok_length (L := L) hx1) ⟨jc_length, jn_RJ0, ml_RX12_55, ji_length, js_length⟩ ⟨by decide, by decide⟩ rfl (rm_ok (by decide) (by decide)) hl.1 rfl (Nat.le_of_ble_eq_true rfl) ⟨by decide, by decide⟩ dX12_saysWord_4 (fun H locs S => ?_)
    refine lv_icmp_ge (tgt := 25) hx hb dX12_saysWord_7 (by decide) (fun c1 => ?_) (fun c1 => ?_)
    · have h := it_p c1 h
      exact x_vret C S hr h dX12_saysWord_25
    · have h := it_n c1 h
      refine lv_aload_n hx hb dX12_saysWord_10 rfl (lv_at hl 0 rfl) ?_
      refine lv_aload_n hx hb dX12_saysWord_11 rfl (lv_at hl 1 rfl) ?_
      refine lv_iload_n hx hb dX12_saysWord_12 rfl (lv_at hl 2 rfl) ?_
      obtain ⟨hi2, h⟩ := ck_el h
      refine x_callJ C S hx1 (ok_charAt (L := L) hx1 hi2) ⟨jc_charAt, jn_RJ0, ml_RX12_60, ji_charAt, js_charAt⟩ ⟨by decide, by decide⟩ rfl (rm_ok (by decide) (by decide)) hl.1 rfl (Nat.le_of_ble_eq_true rfl) ⟨by decide, by decide⟩ dX12_saysWord_13 (fun H locs S => ?_)
      obtain ⟨a3, σ3, hc3, h⟩ := bd_el h
      refine x_callVV C S KX12 hx0 (ok_X12_says (L := L) hc3 hSh hx0) ⟨cd_X12_says, ni_RX12, ml_RX12_372, in_X12_says, sl_X12_says⟩ ⟨by decide, by decide⟩ rfl (rm_ok (by decide) (by decide)) hl.1 rfl (Nat.le_of_ble_eq_true rfl) ⟨by decide, by decide⟩ dX12_saysWord_16 (fun H locs S => ?_)
      refine lv_iinc (v := x2 + 1) (lv' := [(2, .int (x2 + 1)), (0, .ref (gb g + x0)), (1, .ref (gS g x1))]) hx hb dX12_saysWord_19 hl (k := 2) rfl rfl (by decide) rfl (fun ls hl => ?_)
      refine lv_goto (tgt := 2) hx hb dX12_saysWord_22 (by decide) ?_
      exact ih σ3 x0 x1 (x2 + 1) h hx0 hx1 H locs ls S (lv_sub hl [1, 2, 0] rfl)
set_option maxHeartbeats 4000000 in
set_option maxRecDepth 100000 in
theorem ok_X12_saysWord {l : Launch} {g : GL} {R : Nat → Nat → Nat} {L : Nat → Nat → Int64} {N : Nat} {σ : SI} {x0 : Nat} {x1 : Nat} {r : (Unit × SI)} (h : f_X12_saysWord N R σ x0 x1 = some r) (hSh : ShR R) (hx0 : Ok 194 x0 12) (hx1 : x1 < 13) : Ct l g 5 yX12_saysWord cX12_saysWord 3 none 194 194 0 0 [.ref (gb g + x0), .ref (gS g x1)] (mkS σ R L) (PV R L r) := by
  refine Met.ofW (cc := cX12_saysWord) (maxL := 3) (ret := none) (by decide) rfl ?_
  intro p e s m args below meth c s₁ B hml hv
  obtain ⟨rfl, hE, hLo, hWd⟩ := hv
  have hr : meth.sig.returnType = none := B.returns
  have C : Cx l g p s m meth c cX12_saysWord 3 RX12 := ⟨B.exec, B.bytes, hml, findClass_of_methodNamed B.named, hE, hLo, B.notSynchronized⟩
  have S : S2 g s σ R L s.heap [] := ⟨hWd, va_S.rf⟩
  have hx := C.1
  have hb := C.2.1
  have hl := lv_entry ([.ref (gb g + x0), .ref (gS g x1)]) (n := 3) (Nat.le_of_ble_eq_true rfl)
  rw [lg_entry_eq]
  generalize (lg_sl ([.ref (gb g + x0), .ref (gS g x1)]) ++ List.replicate (3 - (lg_sl ([.ref (gb g + x0), .ref (gS g x1)])).length) Slot.unset).toArray = ls at hl ⊢
  have hl : lv_has ls 3 [(0, .ref (gb g + x0)), (1, .ref (gS g x1))] := hl
  generalize hH : s.heap = H at S ⊢
  generalize hlc : ([] : List Loc) = locs at S ⊢
  rw [f_X12_saysWord] at h
  refine lv_iconst (v := (0 : Int32)) hx hb dX12_saysWord_0 (by decide) ?_
  refine lv_istore_n (lv' := [(2, .int (0 : Int32)), (0, .ref (gb g + x0)), (1, .ref (gS g x1))]) hx hb dX12_saysWord_1 rfl hl (by decide) rfl (fun ls hl => ?_)
  exact w_X12_saysWord_2 C hr hSh N σ x0 x1 (0 : Int32) h hx0 hx1 H locs ls S (lv_sub hl [1, 2, 0] rfl)
theorem dX12_format_0 : decode cX12_format 0 = .ok (.aload_n 0, 1) := by decide +kernel
theorem dX12_format_1 : decode cX12_format 1 = .ok (.iconst 0, 1) := by decide +kernel
theorem dX12_format_2 : decode cX12_format 2 = .ok (.putfield 3, 3) := by decide +kernel
theorem dX12_format_5 : decode cX12_format 5 = .ok (.aload_n 0, 1) := by decide +kernel
theorem dX12_format_6 : decode cX12_format 6 = .ok (.iload_n 1, 1) := by decide +kernel
theorem dX12_format_7 : decode cX12_format 7 = .ok (.invokevirtual 198, 3) := by decide +kernel
theorem dX12_format_10 : decode cX12_format 10 = .ok (.ifCond .eq 5, 3) := by decide +kernel
theorem dX12_format_13 : decode cX12_format 13 = .ok (.iconst 0, 1) := by decide +kernel
theorem dX12_format_14 : decode cX12_format 14 = .ok (.ireturn, 1) := by decide +kernel
theorem dX12_format_15 : decode cX12_format 15 = .ok (.aload_n 0, 1) := by decide +kernel
theorem dX12_format_16 : decode cX12_format 16 = .ok (.iconst 0, 1) := by decide +kernel
theorem dX12_format_17 : decode cX12_format 17 = .ok (.putfield 366, 3) := by decide +kernel
theorem dX12_format_20 : decode cX12_format 20 = .ok (.iconst 0, 1) := by decide +kernel
theorem dX12_format_21 : decode cX12_format 21 = .ok (.istore_n 2, 1) := by decide +kernel
theorem dX12_format_22 : decode cX12_format 22 = .ok (.iload_n 2, 1) := by decide +kernel
theorem dX12_format_23 : decode cX12_format 23 = .ok (.bipush 6, 2) := by decide +kernel
theorem dX12_format_25 : decode cX12_format 25 = .ok (.if_icmp .ge 32, 3) := by decide +kernel
theorem dX12_format_28 : decode cX12_format 28 = .ok (.aload_n 0, 1) := by decide +kernel
theorem dX12_format_29 : decode cX12_format 29 = .ok (.iload_n 1, 1) := by decide +kernel
theorem dX12_format_30 : decode cX12_format 30 = .ok (.iconst 0, 1) := by decide +kernel
theorem dX12_format_31 : decode cX12_format 31 = .ok (.iload_n 2, 1) := by decide +kernel
theorem dX12_format_32 : decode cX12_format 32 = .ok (.iadd, 1) := by decide +kernel
theorem dX12_format_33 : decode cX12_format 33 = .ok (.invokevirtual 192, 3) := by decide +kernel
theorem dX12_format_36 : decode cX12_format 36 = .ok (.ifCond .eq 15, 3) := by decide +kernel
theorem dX12_format_39 : decode cX12_format 39 = .ok (.aload_n 0, 1) := by decide +kernel
theorem dX12_format_40 : decode cX12_format 40 = .ok (.aload_n 0, 1) := by decide +kernel
theorem dX12_format_41 : decode cX12_format 41 = .ok (.iload_n 1, 1) := by decide +kernel
theorem dX12_format_42 : decode cX12_format 42 = .ok (.iconst 0, 1) := by decide +kernel
theorem dX12_format_43 : decode cX12_format 43 = .ok (.iload_n 2, 1) := by decide +kernel
theorem dX12_format_44 : decode cX12_format 44 = .ok (.iadd, 1) := by decide +kernel
theorem dX12_format_45 : decode cX12_format 45 = .ok (.invokevirtual 192, 3) := by decide +kernel
theorem dX12_format_48 : decode cX12_format 48 = .ok (.invokevirtual 372, 3) := by decide +kernel
theorem dX12_format_51 : decode cX12_format 51 = .ok (.iinc 2 1, 3) := by decide +kernel
theorem dX12_format_54 : decode cX12_format 54 = .ok (.goto (-32), 3) := by decide +kernel
theorem dX12_format_57 : decode cX12_format 57 = .ok (.aload_n 0, 1) := by decide +kernel
theorem dX12_format_58 : decode cX12_format 58 = .ok (.bipush 32, 2) := by decide +kernel
theorem dX12_format_60 : decode cX12_format 60 = .ok (.invokevirtual 372, 3) := by decide +kernel
theorem dX12_format_63 : decode cX12_format 63 = .ok (.aload_n 0, 1) := by decide +kernel
theorem dX12_format_64 : decode cX12_format 64 = .ok (.iload_n 1, 1) := by decide +kernel
theorem dX12_format_65 : decode cX12_format 65 = .ok (.invokevirtual 281, 3) := by decide +kernel
theorem dX12_format_68 : decode cX12_format 68 = .ok (.iconst (-1), 1) := by decide +kernel
theorem dX12_format_69 : decode cX12_format 69 = .ok (.if_icmp .ne 12, 3) := by decide +kernel
theorem dX12_format_72 : decode cX12_format 72 = .ok (.aload_n 0, 1) := by decide +kernel
theorem dX12_format_73 : decode cX12_format 73 = .ok (.bipush 45, 2) := by decide +kernel
theorem dX12_format_75 : decode cX12_format 75 = .ok (.invokevirtual 372, 3) := by decide +kernel
theorem dX12_format_78 : decode cX12_format 78 = .ok (.goto 54, 3) := by decide +kernel
theorem dX12_format_81 : decode cX12_format 81 = .ok (.aload_n 0, 1) := by decide +kernel
theorem dX12_format_82 : decode cX12_format 82 = .ok (.aload_n 0, 1) := by decide +kernel
theorem dX12_format_83 : decode cX12_format 83 = .ok (.iload_n 1, 1) := by decide +kernel
theorem dX12_format_84 : decode cX12_format 84 = .ok (.invokevirtual 281, 3) := by decide +kernel
theorem dX12_format_87 : decode cX12_format 87 = .ok (.bipush 60, 2) := by decide +kernel
theorem dX12_format_89 : decode cX12_format 89 = .ok (.idiv, 1) := by decide +kernel
theorem dX12_format_90 : decode cX12_format 90 = .ok (.invokevirtual 369, 3) := by decide +kernel
theorem dX12_format_93 : decode cX12_format 93 = .ok (.aload_n 0, 1) := by decide +kernel
theorem dX12_format_94 : decode cX12_format 94 = .ok (.bipush 58, 2) := by decide +kernel
theorem dX12_format_96 : decode cX12_format 96 = .ok (.invokevirtual 372, 3) := by decide +kernel
theorem dX12_format_99 : decode cX12_format 99 = .ok (.aload_n 0, 1) := by decide +kernel
theorem dX12_format_100 : decode cX12_format 100 = .ok (.bipush 48, 2) := by decide +kernel
theorem dX12_format_102 : decode cX12_format 102 = .ok (.aload_n 0, 1) := by decide +kernel
theorem dX12_format_103 : decode cX12_format 103 = .ok (.iload_n 1, 1) := by decide +kernel
theorem dX12_format_104 : decode cX12_format 104 = .ok (.invokevirtual 281, 3) := by decide +kernel
theorem dX12_format_107 : decode cX12_format 107 = .ok (.bipush 60, 2) := by decide +kernel
theorem dX12_format_109 : decode cX12_format 109 = .ok (.irem, 1) := by decide +kernel
theorem dX12_format_110 : decode cX12_format 110 = .ok (.bipush 10, 2) := by decide +kernel
theorem dX12_format_112 : decode cX12_format 112 = .ok (.idiv, 1) := by decide +kernel
theorem dX12_format_113 : decode cX12_format 113 = .ok (.iadd, 1) := by decide +kernel
theorem dX12_format_114 : decode cX12_format 114 = .ok (.invokevirtual 372, 3) := by decide +kernel
theorem dX12_format_117 : decode cX12_format 117 = .ok (.aload_n 0, 1) := by decide +kernel
theorem dX12_format_118 : decode cX12_format 118 = .ok (.bipush 48, 2) := by decide +kernel
theorem dX12_format_120 : decode cX12_format 120 = .ok (.aload_n 0, 1) := by decide +kernel
theorem dX12_format_121 : decode cX12_format 121 = .ok (.iload_n 1, 1) := by decide +kernel
theorem dX12_format_122 : decode cX12_format 122 = .ok (.invokevirtual 281, 3) := by decide +kernel
theorem dX12_format_125 : decode cX12_format 125 = .ok (.bipush 10, 2) := by decide +kernel
theorem dX12_format_127 : decode cX12_format 127 = .ok (.irem, 1) := by decide +kernel
theorem dX12_format_128 : decode cX12_format 128 = .ok (.iadd, 1) := by decide +kernel
theorem dX12_format_129 : decode cX12_format 129 = .ok (.invokevirtual 372, 3) := by decide +kernel
theorem dX12_format_132 : decode cX12_format 132 = .ok (.aload_n 0, 1) := by decide +kernel
theorem dX12_format_133 : decode cX12_format 133 = .ok (.ldc_w 375, 3) := by decide +kernel
theorem dX12_format_136 : decode cX12_format 136 = .ok (.invokevirtual 377, 3) := by decide +kernel
theorem dX12_format_139 : decode cX12_format 139 = .ok (.aload_n 0, 1) := by decide +kernel
theorem dX12_format_140 : decode cX12_format 140 = .ok (.aload_n 0, 1) := by decide +kernel
theorem dX12_format_141 : decode cX12_format 141 = .ok (.iload_n 1, 1) := by decide +kernel
theorem dX12_format_142 : decode cX12_format 142 = .ok (.iconst (-1), 1) := by decide +kernel
theorem dX12_format_143 : decode cX12_format 143 = .ok (.invokevirtual 233, 3) := by decide +kernel
theorem dX12_format_146 : decode cX12_format 146 = .ok (.invokevirtual 369, 3) := by decide +kernel
theorem dX12_format_149 : decode cX12_format 149 = .ok (.aload_n 0, 1) := by decide +kernel
theorem dX12_format_150 : decode cX12_format 150 = .ok (.ldc_w 381, 3) := by decide +kernel
theorem dX12_format_153 : decode cX12_format 153 = .ok (.invokevirtual 377, 3) := by decide +kernel
theorem dX12_format_156 : decode cX12_format 156 = .ok (.aload_n 0, 1) := by decide +kernel
theorem dX12_format_157 : decode cX12_format 157 = .ok (.iload_n 1, 1) := by decide +kernel
theorem dX12_format_158 : decode cX12_format 158 = .ok (.invokevirtual 260, 3) := by decide +kernel
theorem dX12_format_161 : decode cX12_format 161 = .ok (.istore_n 2, 1) := by decide +kernel
theorem dX12_format_162 : decode cX12_format 162 = .ok (.iconst 0, 1) := by decide +kernel
theorem dX12_format_163 : decode cX12_format 163 = .ok (.istore_n 3, 1) := by decide +kernel
theorem dX12_format_164 : decode cX12_format 164 = .ok (.iconst 0, 1) := by decide +kernel
theorem dX12_format_165 : decode cX12_format 165 = .ok (.istore 4, 2) := by decide +kernel
theorem dX12_format_167 : decode cX12_format 167 = .ok (.iload 4, 2) := by decide +kernel
theorem dX12_format_169 : decode cX12_format 169 = .ok (.bipush 6, 2) := by decide +kernel
theorem dX12_format_171 : decode cX12_format 171 = .ok (.if_icmp .ge 18, 3) := by decide +kernel
theorem dX12_format_174 : decode cX12_format 174 = .ok (.iload_n 3, 1) := by decide +kernel
theorem dX12_format_175 : decode cX12_format 175 = .ok (.iload_n 2, 1) := by decide +kernel
theorem dX12_format_176 : decode cX12_format 176 = .ok (.iload 4, 2) := by decide +kernel
theorem dX12_format_178 : decode cX12_format 178 = .ok (.ishr, 1) := by decide +kernel
theorem dX12_format_179 : decode cX12_format 179 = .ok (.iconst 1, 1) := by decide +kernel
theorem dX12_format_180 : decode cX12_format 180 = .ok (.iand, 1) := by decide +kernel
theorem dX12_format_181 : decode cX12_format 181 = .ok (.iadd, 1) := by decide +kernel
theorem dX12_format_182 : decode cX12_format 182 = .ok (.istore_n 3, 1) := by decide +kernel
theorem dX12_format_183 : decode cX12_format 183 = .ok (.iinc 4 1, 3) := by decide +kernel
theorem dX12_format_186 : decode cX12_format 186 = .ok (.goto (-19), 3) := by decide +kernel
theorem dX12_format_189 : decode cX12_format 189 = .ok (.aload_n 0, 1) := by decide +kernel
theorem dX12_format_190 : decode cX12_format 190 = .ok (.iload_n 3, 1) := by decide +kernel
theorem dX12_format_191 : decode cX12_format 191 = .ok (.invokevirtual 369, 3) := by decide +kernel
theorem dX12_format_194 : decode cX12_format 194 = .ok (.aload_n 0, 1) := by decide +kernel
theorem dX12_format_195 : decode cX12_format 195 = .ok (.iload_n 1, 1) := by decide +kernel
theorem dX12_format_196 : decode cX12_format 196 = .ok (.invokevirtual 293, 3) := by decide +kernel
theorem dX12_format_199 : decode cX12_format 199 = .ok (.ifCond .eq 10, 3) := by decide +kernel
theorem dX12_format_202 : decode cX12_format 202 = .ok (.aload_n 0, 1) := by decide +kernel
theorem dX12_format_203 : decode cX12_format 203 = .ok (.ldc_w 383, 3) := by decide +kernel
theorem dX12_format_206 : decode cX12_format 206 = .ok (.invokevirtual 377, 3) := by decide +kernel
theorem dX12_format_209 : decode cX12_format 209 = .ok (.aload_n 0, 1) := by decide +kernel
theorem dX12_format_210 : decode cX12_format 210 = .ok (.getfield 366, 3) := by decide +kernel
theorem dX12_format_213 : decode cX12_format 213 = .ok (.ireturn, 1) := by decide +kernel
def f_X12_format_167 (N : Nat) (R : Nat → Nat → Nat) : Nat → SI → Nat → Int32 → Int32 → Int32 → Int32 → Option (Int32 × SI)
  | 0, _, _, _, _, _, _ => none
  | n + 1, σ, x0, x1, x2, x3, x4 => if (6 : Int32) ≤ x4 then (bd (f_X12_saysNumber N R 12 σ x0 x3) (fun _ σ22 => bd (f_X12_hasFired N R σ22 x0 x1) (fun a23 σ23 => if a23 = 0 then (some (σ23 x0 26, σ23)) else (bd (f_X12_saysWord N R σ23 x0 10) (fun _ σ25 => some (σ25 x0 26, σ25)))))) else (f_X12_format_167 N R n σ x0 x1 x2 (x3 + ((x2 >>> (x4 &&& 31)) &&& (1 : Int32))) (x4 + 1))
def f_X12_format_132 (N : Nat) (R : Nat → Nat → Nat) (σ : SI) (x0 : Nat) (x1 : Int32) : Option (Int32 × SI) := bd (f_X12_saysWord N R σ x0 11) (fun _ σ16 => bd (f_X12_window N R σ16 x0 x1 (-1 : Int32)) (fun a17 σ17 => bd (f_X12_saysNumber N R 12 σ17 x0 a17) (fun _ σ18 => bd (f_X12_saysWord N R σ18 x0 12) (fun _ σ19 => bd (f_X12_shutBy N R σ19 x0 x1) (fun a20 σ20 => f_X12_format_167 N R N σ20 x0 x1 a20 (0 : Int32) (0 : Int32))))))
def f_X12_format_51 (N : Nat) (R : Nat → Nat → Nat) (k22 : SI → Nat → Int32 → Int32 → Option (Int32 × SI)) (σ : SI) (x0 : Nat) (x1 : Int32) (x2 : Int32) : Option (Int32 × SI) := k22 σ x0 x1 (x2 + 1)
def f_X12_format_22 (N : Nat) (R : Nat → Nat → Nat) : Nat → SI → Nat → Int32 → Int32 → Option (Int32 × SI)
  | 0, _, _, _, _ => none
  | n + 1, σ, x0, x1, x2 => if (6 : Int32) ≤ x2 then (bd (f_X12_says N R σ x0 (32 : Int32)) (fun _ σ6 => bd (f_X12_time N R σ6 x0 x1) (fun a7 σ7 => if a7 = (-1 : Int32) then (bd (f_X12_says N R σ7 x0 (45 : Int32)) (fun _ σ26 => f_X12_format_132 N R σ26 x0 x1)) else (bd (f_X12_time N R σ7 x0 x1) (fun a9 σ9 => bd (f_X12_saysNumber N R 12 σ9 x0 (a9 / (60 : Int32))) (fun _ σ10 => bd (f_X12_says N R σ10 x0 (58 : Int32)) (fun _ σ11 => bd (f_X12_time N R σ11 x0 x1) (fun a12 σ12 => bd (f_X12_says N R σ12 x0 ((48 : Int32) + ((a12 - a12 / (60 : Int32) * (60 : Int32)) / (10 : Int32)))) (fun _ σ13 => bd (f_X12_time N R σ13 x0 x1) (fun a14 σ14 => bd (f_X12_says N R σ14 x0 ((48 : Int32) + (a14 - a14 / (10 : Int32) * (10 : Int32)))) (fun _ σ15 => f_X12_format_132 N R σ15 x0 x1))))))))))) else (bd (f_X12_ofBlast N R σ x0 x1 ((0 : Int32) + x2)) (fun a27 σ27 => if a27 = 0 then (f_X12_format_51 N R (fun σ x0 x1 x2 => f_X12_format_22 N R n σ x0 x1 x2) σ27 x0 x1 x2) else (bd (f_X12_ofBlast N R σ27 x0 x1 ((0 : Int32) + x2)) (fun a29 σ29 => bd (f_X12_says N R σ29 x0 a29) (fun _ σ30 => f_X12_format_51 N R (fun σ x0 x1 x2 => f_X12_format_22 N R n σ x0 x1 x2) σ30 x0 x1 x2)))))
def f_X12_format (N : Nat) (R : Nat → Nat → Nat) (σ : SI) (x0 : Nat) (x1 : Int32) : Option (Int32 × SI) := sq (up σ x0 0 (0 : Int32)) (fun σ1 => bd (f_X12_noBlast N R σ1 x0 x1) (fun a2 σ2 => if a2 = 0 then (sq (up σ2 x0 26 (0 : Int32)) (fun σ4 => f_X12_format_22 N R N σ4 x0 x1 (0 : Int32))) else (some ((0 : Int32), σ2))))
set_option maxHeartbeats 4000000 in
set_option maxRecDepth 100000 in
theorem w_X12_format_167 {l : Launch} {g : GL} {p : Program} {e : Jvm.Env} {s : State} {m : MethodId} {args : Array Value} {below : List Frame} {meth : Method} {c : Code} {R : Nat → Nat → Nat} {L : Nat → Nat → Int64} {r : (Int32 × SI)} {N : Nat} (C : Cx l g p s m meth c cX12_format 5 RX12) (hr : meth.sig.returnType = (some .int)) (hSh : ShR R) : ∀ (n : Nat) (σ : SI) (x0 : Nat) (x1 : Int32) (x2 : Int32) (x3 : Int32) (x4 : Int32), f_X12_format_167 N R n σ x0 x1 x2 x3 x4 = some r → Ok 194 x0 12 → ∀ (H : Heap) (locs : List Loc) (ls : Array Slot), S2 g s σ R L H locs → lv_has ls 5 [(0, .ref (gb g + x0)), (1, .int x1), (2, .int x2), (3, .int x3), (4, .int x4)] → W p l e (rmd 15 0 0) s m args below meth c H locs 0 0 (MQ below (Qg g 194 (PI R L r)) args s 0 0 (gA g)) (F0 m 167 ls []) := by
  have hx := C.1
  have hb := C.2.1
  intro n
  induction n with
  | zero =>
    intro σ x0 x1 x2 x3 x4 h
    cases (show (none : Option (Int32 × SI)) = some r from h)
  | succ n ih =>
    intro σ x0 x1 x2 x3 x4 h hx0 H locs ls S hl
    rw [f_X12_format_167] at h
    refine lv_iload hx hb dX12_format_167 (lv_at hl 4 rfl) ?_
    refine lv_bipush (v := (6 : Int32)) hx hb dX12_format_169 (by decide) ?_
    refine lv_icmp_ge (tgt := 189) hx hb dX12_format_171 (by decide) (fun c21 => ?_) (fun c21 => ?_)
    · have h := it_p c21 h
      refine lv_aload_n hx hb dX12_format_189 rfl (lv_at hl 0 rfl) ?_
      refine lv_iload_n hx hb dX12_format_190 rfl (lv_at hl 3 rfl) ?_
      obtain ⟨a22, σ22, hc22, h⟩ := bd_el h
      refine x_callVV C S KX12 hx0 (ok_X12_saysNumber (L := L) 12 hc22 hSh hx0) ⟨cd_X12_saysNumber, ni_RX12, ml_RX12_369, in_X12_saysNumber, sl_X12_saysNumber⟩ ⟨by decide, by decide⟩ rfl (rm_ok (by decide) (by decide)) hl.1 rfl (Nat.le_of_ble_eq_true rfl) ⟨by decide, by decide⟩ dX12_format_191 (fun H locs S => ?_)
      refine lv_aload_n hx hb dX12_format_194 rfl (lv_at hl 0 rfl) ?_
      refine lv_iload_n hx hb dX12_format_195 rfl (lv_at hl 1 rfl) ?_
      obtain ⟨a23, σ23, hc23, h⟩ := bd_el h
      refine x_callVI C S KX12 hx0 (ok_X12_hasFired (L := L) hc23 hSh hx0) ⟨cd_X12_hasFired, ni_RX12, ml_RX12_293, in_X12_hasFired, sl_X12_hasFired⟩ ⟨by decide, by decide⟩ rfl (rm_ok (by decide) (by decide)) hl.1 rfl (Nat.le_of_ble_eq_true rfl) ⟨by decide, by decide⟩ dX12_format_196 (fun H locs S => ?_)
      refine lv_if_eq (tgt := 209) hx hb dX12_format_199 (by decide) (fun c24 => ?_) (fun c24 => ?_)
      · have h := it_p c24 h
        refine lv_aload_n hx hb dX12_format_209 rfl (lv_at hl 0 rfl) ?_
        refine x_getI C S KX12 hx0 26 (by decide) rfl rfl fl_RX12_366 dX12_format_210 ?_
        exact x_iret C S hr h dX12_format_213
      · have h := it_n c24 h
        refine lv_aload_n hx hb dX12_format_202 rfl (lv_at hl 0 rfl) ?_
        refine x_ldcsW C (k := 383) (tx := " fired") (ia := 10) (by decide) dX12_format_203 ?_
        obtain ⟨a25, σ25, hc25, h⟩ := bd_el h
        refine x_callVV C S KX12 hx0 (ok_X12_saysWord (L := L) hc25 hSh hx0 (by decide)) ⟨cd_X12_saysWord, ni_RX12, ml_RX12_377, in_X12_saysWord, sl_X12_saysWord⟩ ⟨by decide, by decide⟩ rfl (rm_ok (by decide) (by decide)) hl.1 rfl (Nat.le_of_ble_eq_true rfl) ⟨by decide, by decide⟩ dX12_format_206 (fun H locs S => ?_)
        refine lv_aload_n hx hb dX12_format_209 rfl (lv_at hl 0 rfl) ?_
        refine x_getI C S KX12 hx0 26 (by decide) rfl rfl fl_RX12_366 dX12_format_210 ?_
        exact x_iret C S hr h dX12_format_213
    · have h := it_n c21 h
      refine lv_iload_n hx hb dX12_format_174 rfl (lv_at hl 3 rfl) ?_
      refine lv_iload_n hx hb dX12_format_175 rfl (lv_at hl 2 rfl) ?_
      refine lv_iload hx hb dX12_format_176 (lv_at hl 4 rfl) ?_
      refine lv_ishr hx hb dX12_format_178 ?_
      refine lv_iconst (v := (1 : Int32)) hx hb dX12_format_179 (by decide) ?_
      refine lv_iand hx hb dX12_format_180 ?_
      refine lv_iadd hx hb dX12_format_181 ?_
      refine lv_istore_n (lv' := [(3, .int (x3 + ((x2 >>> (x4 &&& 31)) &&& (1 : Int32)))), (0, .ref (gb g + x0)), (1, .int x1), (2, .int x2), (4, .int x4)]) hx hb dX12_format_182 rfl hl (by decide) rfl (fun ls hl => ?_)
      refine lv_iinc (v := x4 + 1) (lv' := [(4, .int (x4 + 1)), (3, .int (x3 + ((x2 >>> (x4 &&& 31)) &&& (1 : Int32)))), (0, .ref (gb g + x0)), (1, .int x1), (2, .int x2)]) hx hb dX12_format_183 hl (k := 4) rfl rfl (by decide) rfl (fun ls hl => ?_)
      refine lv_goto (tgt := 167) hx hb dX12_format_186 (by decide) ?_
      exact ih σ x0 x1 x2 (x3 + ((x2 >>> (x4 &&& 31)) &&& (1 : Int32))) (x4 + 1) h hx0 H locs ls S (lv_sub hl [2, 3, 4, 1, 0] rfl)
set_option maxHeartbeats 4000000 in
set_option maxRecDepth 100000 in
theorem w_X12_format_132 {l : Launch} {g : GL} {p : Program} {e : Jvm.Env} {s : State} {m : MethodId} {args : Array Value} {below : List Frame} {meth : Method} {c : Code} {R : Nat → Nat → Nat} {L : Nat → Nat → Int64} {r : (Int32 × SI)} {N : Nat} (C : Cx l g p s m meth c cX12_format 5 RX12) (hr : meth.sig.returnType = (some .int)) (hSh : ShR R) : ∀ (σ : SI) (x0 : Nat) (x1 : Int32), f_X12_format_132 N R σ x0 x1 = some r → Ok 194 x0 12 → ∀ (H : Heap) (locs : List Loc) (ls : Array Slot), S2 g s σ R L H locs → lv_has ls 5 [(0, .ref (gb g + x0)), (1, .int x1)] → W p l e (rmd 15 0 0) s m args below meth c H locs 0 0 (MQ below (Qg g 194 (PI R L r)) args s 0 0 (gA g)) (F0 m 132 ls []) := by
  have hx := C.1
  have hb := C.2.1
  intro σ x0 x1 h hx0 H locs ls S hl
  rw [f_X12_format_132] at h
  refine lv_aload_n hx hb dX12_format_132 rfl (lv_at hl 0 rfl) ?_
  refine x_ldcsW C (k := 375) (tx := " w") (ia := 11) (by decide) dX12_format_133 ?_
  obtain ⟨a16, σ16, hc16, h⟩ := bd_el h
  refine x_callVV C S KX12 hx0 (ok_X12_saysWord (L := L) hc16 hSh hx0 (by decide)) ⟨cd_X12_saysWord, ni_RX12, ml_RX12_377, in_X12_saysWord, sl_X12_saysWord⟩ ⟨by decide, by decide⟩ rfl (rm_ok (by decide) (by decide)) hl.1 rfl (Nat.le_of_ble_eq_true rfl) ⟨by decide, by decide⟩ dX12_format_136 (fun H locs S => ?_)
  refine lv_aload_n hx hb dX12_format_139 rfl (lv_at hl 0 rfl) ?_
  refine lv_aload_n hx hb dX12_format_140 rfl (lv_at hl 0 rfl) ?_
  refine lv_iload_n hx hb dX12_format_141 rfl (lv_at hl 1 rfl) ?_
  refine lv_iconst (v := (-1 : Int32)) hx hb dX12_format_142 (by decide) ?_
  obtain ⟨a17, σ17, hc17, h⟩ := bd_el h
  refine x_callVI C S KX12 hx0 (ok_X12_window (L := L) hc17 hSh hx0) ⟨cd_X12_window, ni_RX12, ml_RX12_233, in_X12_window, sl_X12_window⟩ ⟨by decide, by decide⟩ rfl (rm_ok (by decide) (by decide)) hl.1 rfl (Nat.le_of_ble_eq_true rfl) ⟨by decide, by decide⟩ dX12_format_143 (fun H locs S => ?_)
  obtain ⟨a18, σ18, hc18, h⟩ := bd_el h
  refine x_callVV C S KX12 hx0 (ok_X12_saysNumber (L := L) 12 hc18 hSh hx0) ⟨cd_X12_saysNumber, ni_RX12, ml_RX12_369, in_X12_saysNumber, sl_X12_saysNumber⟩ ⟨by decide, by decide⟩ rfl (rm_ok (by decide) (by decide)) hl.1 rfl (Nat.le_of_ble_eq_true rfl) ⟨by decide, by decide⟩ dX12_format_146 (fun H locs S => ?_)
  refine lv_aload_n hx hb dX12_format_149 rfl (lv_at hl 0 rfl) ?_
  refine x_ldcsW C (k := 381) (tx := " r") (ia := 12) (by decide) dX12_format_150 ?_
  obtain ⟨a19, σ19, hc19, h⟩ := bd_el h
  refine x_callVV C S KX12 hx0 (ok_X12_saysWord (L := L) hc19 hSh hx0 (by decide)) ⟨cd_X12_saysWord, ni_RX12, ml_RX12_377, in_X12_saysWord, sl_X12_saysWord⟩ ⟨by decide, by decide⟩ rfl (rm_ok (by decide) (by decide)) hl.1 rfl (Nat.le_of_ble_eq_true rfl) ⟨by decide, by decide⟩ dX12_format_153 (fun H locs S => ?_)
  refine lv_aload_n hx hb dX12_format_156 rfl (lv_at hl 0 rfl) ?_
  refine lv_iload_n hx hb dX12_format_157 rfl (lv_at hl 1 rfl) ?_
  obtain ⟨a20, σ20, hc20, h⟩ := bd_el h
  refine x_callVI C S KX12 hx0 (ok_X12_shutBy (L := L) hc20 hSh hx0) ⟨cd_X12_shutBy, ni_RX12, ml_RX12_260, in_X12_shutBy, sl_X12_shutBy⟩ ⟨by decide, by decide⟩ rfl (rm_ok (by decide) (by decide)) hl.1 rfl (Nat.le_of_ble_eq_true rfl) ⟨by decide, by decide⟩ dX12_format_158 (fun H locs S => ?_)
  refine lv_istore_n (lv' := [(2, .int a20), (0, .ref (gb g + x0)), (1, .int x1)]) hx hb dX12_format_161 rfl hl (by decide) rfl (fun ls hl => ?_)
  refine lv_iconst (v := (0 : Int32)) hx hb dX12_format_162 (by decide) ?_
  refine lv_istore_n (lv' := [(3, .int (0 : Int32)), (2, .int a20), (0, .ref (gb g + x0)), (1, .int x1)]) hx hb dX12_format_163 rfl hl (by decide) rfl (fun ls hl => ?_)
  refine lv_iconst (v := (0 : Int32)) hx hb dX12_format_164 (by decide) ?_
  refine lv_istore (lv' := [(4, .int (0 : Int32)), (3, .int (0 : Int32)), (2, .int a20), (0, .ref (gb g + x0)), (1, .int x1)]) hx hb dX12_format_165 hl (by decide) rfl (fun ls hl => ?_)
  exact w_X12_format_167 C hr hSh N σ20 x0 x1 a20 (0 : Int32) (0 : Int32) h hx0 H locs ls S (lv_sub hl [3, 4, 2, 1, 0] rfl)
set_option maxHeartbeats 4000000 in
set_option maxRecDepth 100000 in
theorem w_X12_format_51 {l : Launch} {g : GL} {p : Program} {e : Jvm.Env} {s : State} {m : MethodId} {args : Array Value} {below : List Frame} {meth : Method} {c : Code} {R : Nat → Nat → Nat} {L : Nat → Nat → Int64} {r : (Int32 × SI)} {N : Nat} {k22 : SI → Nat → Int32 → Int32 → Option (Int32 × SI)} (C : Cx l g p s m meth c cX12_format 5 RX12) (hr : meth.sig.returnType = (some .int)) (hSh : ShR R) (hk22 : ∀ (σ : SI) (x0 : Nat) (x1 : Int32) (x2 : Int32), k22 σ x0 x1 x2 = some r → Ok 194 x0 12 → ∀ (H : Heap) (locs : List Loc) (ls : Array Slot), S2 g s σ R L H locs → lv_has ls 5 [(0, .ref (gb g + x0)), (1, .int x1), (2, .int x2)] → W p l e (rmd 15 0 0) s m args below meth c H locs 0 0 (MQ below (Qg g 194 (PI R L r)) args s 0 0 (gA g)) (F0 m 22 ls [])) : ∀ (σ : SI) (x0 : Nat) (x1 : Int32) (x2 : Int32), f_X12_format_51 N R k22 σ x0 x1 x2 = some r → Ok 194 x0 12 → ∀ (H : Heap) (locs : List Loc) (ls : Array Slot), S2 g s σ R L H locs → lv_has ls 5 [(0, .ref (gb g + x0)), (1, .int x1), (2, .int x2)] → W p l e (rmd 15 0 0) s m args below meth c H locs 0 0 (MQ below (Qg g 194 (PI R L r)) args s 0 0 (gA g)) (F0 m 51 ls []) := by
  have hx := C.1
  have hb := C.2.1
  intro σ x0 x1 x2 h hx0 H locs ls S hl
  rw [f_X12_format_51] at h
  refine lv_iinc (v := x2 + 1) (lv' := [(2, .int (x2 + 1)), (0, .ref (gb g + x0)), (1, .int x1)]) hx hb dX12_format_51 hl (k := 2) rfl rfl (by decide) rfl (fun ls hl => ?_)
  refine lv_goto (tgt := 22) hx hb dX12_format_54 (by decide) ?_
  exact hk22 σ x0 x1 (x2 + 1) h hx0 H locs ls S (lv_sub hl [1, 2, 0] rfl)
set_option maxHeartbeats 4000000 in
set_option maxRecDepth 100000 in
theorem w_X12_format_22 {l : Launch} {g : GL} {p : Program} {e : Jvm.Env} {s : State} {m : MethodId} {args : Array Value} {below : List Frame} {meth : Method} {c : Code} {R : Nat → Nat → Nat} {L : Nat → Nat → Int64} {r : (Int32 × SI)} {N : Nat} (C : Cx l g p s m meth c cX12_format 5 RX12) (hr : meth.sig.returnType = (some .int)) (hSh : ShR R) : ∀ (n : Nat) (σ : SI) (x0 : Nat) (x1 : Int32) (x2 : Int32), f_X12_format_22 N R n σ x0 x1 x2 = some r → Ok 194 x0 12 → ∀ (H : Heap) (locs : List Loc) (ls : Array Slot), S2 g s σ R L H locs → lv_has ls 5 [(0, .ref (gb g + x0)), (1, .int x1), (2, .int x2)] → W p l e (rmd 15 0 0) s m args below meth c H locs 0 0 (MQ below (Qg g 194 (PI R L r)) args s 0 0 (gA g)) (F0 m 22 ls []) := by
  have hx := C.1
  have hb := C.2.1
  intro n
  induction n with
  | zero =>
    intro σ x0 x1 x2 h
    cases (show (none : Option (Int32 × SI)) = some r from h)
  | succ n ih =>
    intro σ x0 x1 x2 h hx0 H locs ls S hl
    rw [f_X12_format_22] at h
    refine lv_iload_n hx hb dX12_format_22 rfl (lv_at hl 2 rfl) ?_
    refine lv_bipush (v := (6 : Int32)) hx hb dX12_format_23 (by decide) ?_
    refine lv_icmp_ge (tgt := 57) hx hb dX12_format_25 (by decide) (fun c5 => ?_) (fun c5 => ?_)
    · have h := it_p c5 h
      refine lv_aload_n hx hb dX12_format_57 rfl (lv_at hl 0 rfl) ?_
      refine lv_bipush (v := (32 : Int32)) hx hb dX12_format_58 (by decide) ?_
      obtain ⟨a6, σ6, hc6, h⟩ := bd_el h
      refine x_callVV C S KX12 hx0 (ok_X12_says (L := L) hc6 hSh hx0) ⟨cd_X12_says, ni_RX12, ml_RX12_372, in_X12_says, sl_X12_says⟩ ⟨by decide, by decide⟩ rfl (rm_ok (by decide) (by decide)) hl.1 rfl (Nat.le_of_ble_eq_true rfl) ⟨by decide, by decide⟩ dX12_format_60 (fun H locs S => ?_)
      refine lv_aload_n hx hb dX12_format_63 rfl (lv_at hl 0 rfl) ?_
      refine lv_iload_n hx hb dX12_format_64 rfl (lv_at hl 1 rfl) ?_
      obtain ⟨a7, σ7, hc7, h⟩ := bd_el h
      refine x_callVI C S KX12 hx0 (ok_X12_time (L := L) hc7 hSh hx0) ⟨cd_X12_time, ni_RX12, ml_RX12_281, in_X12_time, sl_X12_time⟩ ⟨by decide, by decide⟩ rfl (rm_ok (by decide) (by decide)) hl.1 rfl (Nat.le_of_ble_eq_true rfl) ⟨by decide, by decide⟩ dX12_format_65 (fun H locs S => ?_)
      refine lv_iconst (v := (-1 : Int32)) hx hb dX12_format_68 (by decide) ?_
      refine lv_icmp_ne (tgt := 81) hx hb dX12_format_69 (by decide) (fun c8 => ?_) (fun c8 => ?_)
      · have h := it_n c8 h
        refine lv_aload_n hx hb dX12_format_81 rfl (lv_at hl 0 rfl) ?_
        refine lv_aload_n hx hb dX12_format_82 rfl (lv_at hl 0 rfl) ?_
        refine lv_iload_n hx hb dX12_format_83 rfl (lv_at hl 1 rfl) ?_
        obtain ⟨a9, σ9, hc9, h⟩ := bd_el h
        refine x_callVI C S KX12 hx0 (ok_X12_time (L := L) hc9 hSh hx0) ⟨cd_X12_time, ni_RX12, ml_RX12_281, in_X12_time, sl_X12_time⟩ ⟨by decide, by decide⟩ rfl (rm_ok (by decide) (by decide)) hl.1 rfl (Nat.le_of_ble_eq_true rfl) ⟨by decide, by decide⟩ dX12_format_84 (fun H locs S => ?_)
        refine lv_bipush (v := (60 : Int32)) hx hb dX12_format_87 (by decide) ?_
        refine lv_idiv hx hb dX12_format_89 (by decide) ?_
        obtain ⟨a10, σ10, hc10, h⟩ := bd_el h
        refine x_callVV C S KX12 hx0 (ok_X12_saysNumber (L := L) 12 hc10 hSh hx0) ⟨cd_X12_saysNumber, ni_RX12, ml_RX12_369, in_X12_saysNumber, sl_X12_saysNumber⟩ ⟨by decide, by decide⟩ rfl (rm_ok (by decide) (by decide)) hl.1 rfl (Nat.le_of_ble_eq_true rfl) ⟨by decide, by decide⟩ dX12_format_90 (fun H locs S => ?_)
        refine lv_aload_n hx hb dX12_format_93 rfl (lv_at hl 0 rfl) ?_
        refine lv_bipush (v := (58 : Int32)) hx hb dX12_format_94 (by decide) ?_
        obtain ⟨a11, σ11, hc11, h⟩ := bd_el h
        refine x_callVV C S KX12 hx0 (ok_X12_says (L := L) hc11 hSh hx0) ⟨cd_X12_says, ni_RX12, ml_RX12_372, in_X12_says, sl_X12_says⟩ ⟨by decide, by decide⟩ rfl (rm_ok (by decide) (by decide)) hl.1 rfl (Nat.le_of_ble_eq_true rfl) ⟨by decide, by decide⟩ dX12_format_96 (fun H locs S => ?_)
        refine lv_aload_n hx hb dX12_format_99 rfl (lv_at hl 0 rfl) ?_
        refine lv_bipush (v := (48 : Int32)) hx hb dX12_format_100 (by decide) ?_
        refine lv_aload_n hx hb dX12_format_102 rfl (lv_at hl 0 rfl) ?_
        refine lv_iload_n hx hb dX12_format_103 rfl (lv_at hl 1 rfl) ?_
        obtain ⟨a12, σ12, hc12, h⟩ := bd_el h
        refine x_callVI C S KX12 hx0 (ok_X12_time (L := L) hc12 hSh hx0) ⟨cd_X12_time, ni_RX12, ml_RX12_281, in_X12_time, sl_X12_time⟩ ⟨by decide, by decide⟩ rfl (rm_ok (by decide) (by decide)) hl.1 rfl (Nat.le_of_ble_eq_true rfl) ⟨by decide, by decide⟩ dX12_format_104 (fun H locs S => ?_)
        refine lv_bipush (v := (60 : Int32)) hx hb dX12_format_107 (by decide) ?_
        refine lv_irem hx hb dX12_format_109 (by decide) ?_
        refine lv_bipush (v := (10 : Int32)) hx hb dX12_format_110 (by decide) ?_
        refine lv_idiv hx hb dX12_format_112 (by decide) ?_
        refine lv_iadd hx hb dX12_format_113 ?_
        obtain ⟨a13, σ13, hc13, h⟩ := bd_el h
        refine x_callVV C S KX12 hx0 (ok_X12_says (L := L) hc13 hSh hx0) ⟨cd_X12_says, ni_RX12, ml_RX12_372, in_X12_says, sl_X12_says⟩ ⟨by decide, by decide⟩ rfl (rm_ok (by decide) (by decide)) hl.1 rfl (Nat.le_of_ble_eq_true rfl) ⟨by decide, by decide⟩ dX12_format_114 (fun H locs S => ?_)
        refine lv_aload_n hx hb dX12_format_117 rfl (lv_at hl 0 rfl) ?_
        refine lv_bipush (v := (48 : Int32)) hx hb dX12_format_118 (by decide) ?_
        refine lv_aload_n hx hb dX12_format_120 rfl (lv_at hl 0 rfl) ?_
        refine lv_iload_n hx hb dX12_format_121 rfl (lv_at hl 1 rfl) ?_
        obtain ⟨a14, σ14, hc14, h⟩ := bd_el h
        refine x_callVI C S KX12 hx0 (ok_X12_time (L := L) hc14 hSh hx0) ⟨cd_X12_time, ni_RX12, ml_RX12_281, in_X12_time, sl_X12_time⟩ ⟨by decide, by decide⟩ rfl (rm_ok (by decide) (by decide)) hl.1 rfl (Nat.le_of_ble_eq_true rfl) ⟨by decide, by decide⟩ dX12_format_122 (fun H locs S => ?_)
        refine lv_bipush (v := (10 : Int32)) hx hb dX12_format_125 (by decide) ?_
        refine lv_irem hx hb dX12_format_127 (by decide) ?_
        refine lv_iadd hx hb dX12_format_128 ?_
        obtain ⟨a15, σ15, hc15, h⟩ := bd_el h
        refine x_callVV C S KX12 hx0 (ok_X12_says (L := L) hc15 hSh hx0) ⟨cd_X12_says, ni_RX12, ml_RX12_372, in_X12_says, sl_X12_says⟩ ⟨by decide, by decide⟩ rfl (rm_ok (by decide) (by decide)) hl.1 rfl (Nat.le_of_ble_eq_true rfl) ⟨by decide, by decide⟩ dX12_format_129 (fun H locs S => ?_)
        exact w_X12_format_132 C hr hSh σ15 x0 x1 h hx0 H locs ls S (lv_sub hl [0, 1] rfl)
      · have h := it_p c8 h
        refine lv_aload_n hx hb dX12_format_72 rfl (lv_at hl 0 rfl) ?_
        refine lv_bipush (v := (45 : Int32)) hx hb dX12_format_73 (by decide) ?_
        obtain ⟨a26, σ26, hc26, h⟩ := bd_el h
        refine x_callVV C S KX12 hx0 (ok_X12_says (L := L) hc26 hSh hx0) ⟨cd_X12_says, ni_RX12, ml_RX12_372, in_X12_says, sl_X12_says⟩ ⟨by decide, by decide⟩ rfl (rm_ok (by decide) (by decide)) hl.1 rfl (Nat.le_of_ble_eq_true rfl) ⟨by decide, by decide⟩ dX12_format_75 (fun H locs S => ?_)
        refine lv_goto (tgt := 132) hx hb dX12_format_78 (by decide) ?_
        exact w_X12_format_132 C hr hSh σ26 x0 x1 h hx0 H locs ls S (lv_sub hl [0, 1] rfl)
    · have h := it_n c5 h
      refine lv_aload_n hx hb dX12_format_28 rfl (lv_at hl 0 rfl) ?_
      refine lv_iload_n hx hb dX12_format_29 rfl (lv_at hl 1 rfl) ?_
      refine lv_iconst (v := (0 : Int32)) hx hb dX12_format_30 (by decide) ?_
      refine lv_iload_n hx hb dX12_format_31 rfl (lv_at hl 2 rfl) ?_
      refine lv_iadd hx hb dX12_format_32 ?_
      obtain ⟨a27, σ27, hc27, h⟩ := bd_el h
      refine x_callVI C S KX12 hx0 (ok_X12_ofBlast (L := L) hc27 hSh hx0) ⟨cd_X12_ofBlast, ni_RX12, ml_RX12_192, in_X12_ofBlast, sl_X12_ofBlast⟩ ⟨by decide, by decide⟩ rfl (rm_ok (by decide) (by decide)) hl.1 rfl (Nat.le_of_ble_eq_true rfl) ⟨by decide, by decide⟩ dX12_format_33 (fun H locs S => ?_)
      refine lv_if_eq (tgt := 51) hx hb dX12_format_36 (by decide) (fun c28 => ?_) (fun c28 => ?_)
      · have h := it_p c28 h
        exact w_X12_format_51 C hr hSh ih σ27 x0 x1 x2 h hx0 H locs ls S (lv_sub hl [0, 1, 2] rfl)
      · have h := it_n c28 h
        refine lv_aload_n hx hb dX12_format_39 rfl (lv_at hl 0 rfl) ?_
        refine lv_aload_n hx hb dX12_format_40 rfl (lv_at hl 0 rfl) ?_
        refine lv_iload_n hx hb dX12_format_41 rfl (lv_at hl 1 rfl) ?_
        refine lv_iconst (v := (0 : Int32)) hx hb dX12_format_42 (by decide) ?_
        refine lv_iload_n hx hb dX12_format_43 rfl (lv_at hl 2 rfl) ?_
        refine lv_iadd hx hb dX12_format_44 ?_
        obtain ⟨a29, σ29, hc29, h⟩ := bd_el h
        refine x_callVI C S KX12 hx0 (ok_X12_ofBlast (L := L) hc29 hSh hx0) ⟨cd_X12_ofBlast, ni_RX12, ml_RX12_192, in_X12_ofBlast, sl_X12_ofBlast⟩ ⟨by decide, by decide⟩ rfl (rm_ok (by decide) (by decide)) hl.1 rfl (Nat.le_of_ble_eq_true rfl) ⟨by decide, by decide⟩ dX12_format_45 (fun H locs S => ?_)
        obtain ⟨a30, σ30, hc30, h⟩ := bd_el h
        refine x_callVV C S KX12 hx0 (ok_X12_says (L := L) hc30 hSh hx0) ⟨cd_X12_says, ni_RX12, ml_RX12_372, in_X12_says, sl_X12_says⟩ ⟨by decide, by decide⟩ rfl (rm_ok (by decide) (by decide)) hl.1 rfl (Nat.le_of_ble_eq_true rfl) ⟨by decide, by decide⟩ dX12_format_48 (fun H locs S => ?_)
        exact w_X12_format_51 C hr hSh ih σ30 x0 x1 x2 h hx0 H locs ls S (lv_sub hl [0, 1, 2] rfl)
set_option maxHeartbeats 4000000 in
set_option maxRecDepth 100000 in
theorem ok_X12_format {l : Launch} {g : GL} {R : Nat → Nat → Nat} {L : Nat → Nat → Int64} {N : Nat} {σ : SI} {x0 : Nat} {x1 : Int32} {r : (Int32 × SI)} (h : f_X12_format N R σ x0 x1 = some r) (hSh : ShR R) (hx0 : Ok 194 x0 12) : Ct l g 15 yX12_format cX12_format 5 (some .int) 194 194 0 0 [.ref (gb g + x0), .int x1] (mkS σ R L) (PI R L r) := by
  refine Met.ofW (cc := cX12_format) (maxL := 5) (ret := (some .int)) (by decide) rfl ?_
  intro p e s m args below meth c s₁ B hml hv
  obtain ⟨rfl, hE, hLo, hWd⟩ := hv
  have hr : meth.sig.returnType = (some .int) := B.returns
  have C : Cx l g p s m meth c cX12_format 5 RX12 := ⟨B.exec, B.bytes, hml, findClass_of_methodNamed B.named, hE, hLo, B.notSynchronized⟩
  have S : S2 g s σ R L s.heap [] := ⟨hWd, va_S.rf⟩
  have hx := C.1
  have hb := C.2.1
  have hl := lv_entry ([.ref (gb g + x0), .int x1]) (n := 5) (Nat.le_of_ble_eq_true rfl)
  rw [lg_entry_eq]
  generalize (lg_sl ([.ref (gb g + x0), .int x1]) ++ List.replicate (5 - (lg_sl ([.ref (gb g + x0), .int x1])).length) Slot.unset).toArray = ls at hl ⊢
  have hl : lv_has ls 5 [(0, .ref (gb g + x0)), (1, .int x1)] := hl
  generalize hH : s.heap = H at S ⊢
  generalize hlc : ([] : List Loc) = locs at S ⊢
  rw [f_X12_format] at h
  refine lv_aload_n hx hb dX12_format_0 rfl (lv_at hl 0 rfl) ?_
  refine lv_iconst (v := (0 : Int32)) hx hb dX12_format_1 (by decide) ?_
  obtain ⟨σ1, hs1, h⟩ := sq_el h
  refine x_putI C S KX12 hx0 0 (by decide) rfl rfl rfl ⟨rfl, rfl⟩ fl_RX12_3 dX12_format_2 hs1 (fun H locs S => ?_)
  refine lv_aload_n hx hb dX12_format_5 rfl (lv_at hl 0 rfl) ?_
  refine lv_iload_n hx hb dX12_format_6 rfl (lv_at hl 1 rfl) ?_
  obtain ⟨a2, σ2, hc2, h⟩ := bd_el h
  refine x_callVI C S KX12 hx0 (ok_X12_noBlast (L := L) hc2 hSh hx0) ⟨cd_X12_noBlast, ni_RX12, ml_RX12_198, in_X12_noBlast, sl_X12_noBlast⟩ ⟨by decide, by decide⟩ rfl (rm_ok (by decide) (by decide)) hl.1 rfl (Nat.le_of_ble_eq_true rfl) ⟨by decide, by decide⟩ dX12_format_7 (fun H locs S => ?_)
  refine lv_if_eq (tgt := 15) hx hb dX12_format_10 (by decide) (fun c3 => ?_) (fun c3 => ?_)
  · have h := it_p c3 h
    refine lv_aload_n hx hb dX12_format_15 rfl (lv_at hl 0 rfl) ?_
    refine lv_iconst (v := (0 : Int32)) hx hb dX12_format_16 (by decide) ?_
    obtain ⟨σ4, hs4, h⟩ := sq_el h
    refine x_putI C S KX12 hx0 26 (by decide) rfl rfl rfl ⟨rfl, rfl⟩ fl_RX12_366 dX12_format_17 hs4 (fun H locs S => ?_)
    refine lv_iconst (v := (0 : Int32)) hx hb dX12_format_20 (by decide) ?_
    refine lv_istore_n (lv' := [(2, .int (0 : Int32)), (0, .ref (gb g + x0)), (1, .int x1)]) hx hb dX12_format_21 rfl hl (by decide) rfl (fun ls hl => ?_)
    exact w_X12_format_22 C hr hSh N σ4 x0 x1 (0 : Int32) h hx0 H locs ls S (lv_sub hl [1, 2, 0] rfl)
  · have h := it_n c3 h
    refine lv_iconst (v := (0 : Int32)) hx hb dX12_format_13 (by decide) ?_
    exact x_iret C S hr h dX12_format_14
theorem dX1_addText_0 : decode cX1_addText 0 = .ok (.iconst 0, 1) := by decide +kernel
theorem dX1_addText_1 : decode cX1_addText 1 = .ok (.istore_n 2, 1) := by decide +kernel
theorem dX1_addText_2 : decode cX1_addText 2 = .ok (.iload_n 2, 1) := by decide +kernel
theorem dX1_addText_3 : decode cX1_addText 3 = .ok (.aload_n 1, 1) := by decide +kernel
theorem dX1_addText_4 : decode cX1_addText 4 = .ok (.invokevirtual 56, 3) := by decide +kernel
theorem dX1_addText_7 : decode cX1_addText 7 = .ok (.if_icmp .ge 18, 3) := by decide +kernel
theorem dX1_addText_10 : decode cX1_addText 10 = .ok (.aload_n 0, 1) := by decide +kernel
theorem dX1_addText_11 : decode cX1_addText 11 = .ok (.aload_n 1, 1) := by decide +kernel
theorem dX1_addText_12 : decode cX1_addText 12 = .ok (.iload_n 2, 1) := by decide +kernel
theorem dX1_addText_13 : decode cX1_addText 13 = .ok (.invokevirtual 61, 3) := by decide +kernel
theorem dX1_addText_16 : decode cX1_addText 16 = .ok (.invokevirtual 23, 3) := by decide +kernel
theorem dX1_addText_19 : decode cX1_addText 19 = .ok (.iinc 2 1, 3) := by decide +kernel
theorem dX1_addText_22 : decode cX1_addText 22 = .ok (.goto (-20), 3) := by decide +kernel
theorem dX1_addText_25 : decode cX1_addText 25 = .ok (.return_, 1) := by decide +kernel
def f_X1_addText_2 (N : Nat) (R : Nat → Nat → Nat) : Nat → SI → Nat → Nat → Int32 → Option (Unit × SI)
  | 0, _, _, _, _ => none
  | n + 1, σ, x0, x1, x2 => if (lnS x1) ≤ x2 then (some ((), σ)) else (ck x2 (strLen.getD x1 0) (bd (f_X1_add N R σ x0 (chS x1 x2)) (fun _ σ3 => f_X1_addText_2 N R n σ3 x0 x1 (x2 + 1))))
def f_X1_addText (N : Nat) (R : Nat → Nat → Nat) (σ : SI) (x0 : Nat) (x1 : Nat) : Option (Unit × SI) := f_X1_addText_2 N R N σ x0 x1 (0 : Int32)
set_option maxHeartbeats 4000000 in
set_option maxRecDepth 100000 in
theorem w_X1_addText_2 {l : Launch} {g : GL} {p : Program} {e : Jvm.Env} {s : State} {m : MethodId} {args : Array Value} {below : List Frame} {meth : Method} {c : Code} {R : Nat → Nat → Nat} {L : Nat → Nat → Int64} {r : (Unit × SI)} {N : Nat} (C : Cx l g p s m meth c cX1_addText 3 RX1) (hr : meth.sig.returnType = none) (hSh : ShR R) : ∀ (n : Nat) (σ : SI) (x0 : Nat) (x1 : Nat) (x2 : Int32), f_X1_addText_2 N R n σ x0 x1 x2 = some r → Ok 194 x0 1 → x1 < 13 → ∀ (H : Heap) (locs : List Loc) (ls : Array Slot), S2 g s σ R L H locs → lv_has ls 3 [(0, .ref (gb g + x0)), (1, .ref (gS g x1)), (2, .int x2)] → W p l e (rmd 5 0 0) s m args below meth c H locs 0 0 (MQ below (Qg g 194 (PV R L r)) args s 0 0 (gA g)) (F0 m 2 ls []) := by
  have hx := C.1
  have hb := C.2.1
  intro n
  induction n with
  | zero =>
    intro σ x0 x1 x2 h
    cases (show (none : Option (Unit × SI)) = some r from h)
  | succ n ih =>
    intro σ x0 x1 x2 h hx0 hx1 H locs ls S hl
    rw [f_X1_addText_2] at h
    refine lv_iload_n hx hb dX1_addText_2 rfl (lv_at hl 2 rfl) ?_
    refine lv_aload_n hx hb dX1_addText_3 rfl (lv_at hl 1 rfl) ?_
    refine x_callJ C S hx1 (ok_length (L := L) hx1) ⟨jc_length, jn_RJ0, ml_RX1_56, ji_length, js_length⟩ ⟨by decide, by decide⟩ rfl (rm_ok (by decide) (by decide)) hl.1 rfl (Nat.le_of_ble_eq_true rfl) ⟨by decide, by decide⟩ dX1_addText_4 (fun H locs S => ?_)
    refine lv_icmp_ge (tgt := 25) hx hb dX1_addText_7 (by decide) (fun c1 => ?_) (fun c1 => ?_)
    · have h := it_p c1 h
      exact x_vret C S hr h dX1_addText_25
    · have h := it_n c1 h
      refine lv_aload_n hx hb dX1_addText_10 rfl (lv_at hl 0 rfl) ?_
      refine lv_aload_n hx hb dX1_addText_11 rfl (lv_at hl 1 rfl) ?_
      refine lv_iload_n hx hb dX1_addText_12 rfl (lv_at hl 2 rfl) ?_
      obtain ⟨hi2, h⟩ := ck_el h
      refine x_callJ C S hx1 (ok_charAt (L := L) hx1 hi2) ⟨jc_charAt, jn_RJ0, ml_RX1_61, ji_charAt, js_charAt⟩ ⟨by decide, by decide⟩ rfl (rm_ok (by decide) (by decide)) hl.1 rfl (Nat.le_of_ble_eq_true rfl) ⟨by decide, by decide⟩ dX1_addText_13 (fun H locs S => ?_)
      obtain ⟨a3, σ3, hc3, h⟩ := bd_el h
      refine x_callVV C S KX1 hx0 (ok_X1_add (L := L) hc3 hSh hx0) ⟨cd_X1_add, ni_RX1, ml_RX1_23, in_X1_add, sl_X1_add⟩ ⟨by decide, by decide⟩ rfl (rm_ok (by decide) (by decide)) hl.1 rfl (Nat.le_of_ble_eq_true rfl) ⟨by decide, by decide⟩ dX1_addText_16 (fun H locs S => ?_)
      refine lv_iinc (v := x2 + 1) (lv' := [(2, .int (x2 + 1)), (0, .ref (gb g + x0)), (1, .ref (gS g x1))]) hx hb dX1_addText_19 hl (k := 2) rfl rfl (by decide) rfl (fun ls hl => ?_)
      refine lv_goto (tgt := 2) hx hb dX1_addText_22 (by decide) ?_
      exact ih σ3 x0 x1 (x2 + 1) h hx0 hx1 H locs ls S (lv_sub hl [1, 2, 0] rfl)
set_option maxHeartbeats 4000000 in
set_option maxRecDepth 100000 in
theorem ok_X1_addText {l : Launch} {g : GL} {R : Nat → Nat → Nat} {L : Nat → Nat → Int64} {N : Nat} {σ : SI} {x0 : Nat} {x1 : Nat} {r : (Unit × SI)} (h : f_X1_addText N R σ x0 x1 = some r) (hSh : ShR R) (hx0 : Ok 194 x0 1) (hx1 : x1 < 13) : Ct l g 5 yX1_addText cX1_addText 3 none 194 194 0 0 [.ref (gb g + x0), .ref (gS g x1)] (mkS σ R L) (PV R L r) := by
  refine Met.ofW (cc := cX1_addText) (maxL := 3) (ret := none) (by decide) rfl ?_
  intro p e s m args below meth c s₁ B hml hv
  obtain ⟨rfl, hE, hLo, hWd⟩ := hv
  have hr : meth.sig.returnType = none := B.returns
  have C : Cx l g p s m meth c cX1_addText 3 RX1 := ⟨B.exec, B.bytes, hml, findClass_of_methodNamed B.named, hE, hLo, B.notSynchronized⟩
  have S : S2 g s σ R L s.heap [] := ⟨hWd, va_S.rf⟩
  have hx := C.1
  have hb := C.2.1
  have hl := lv_entry ([.ref (gb g + x0), .ref (gS g x1)]) (n := 3) (Nat.le_of_ble_eq_true rfl)
  rw [lg_entry_eq]
  generalize (lg_sl ([.ref (gb g + x0), .ref (gS g x1)]) ++ List.replicate (3 - (lg_sl ([.ref (gb g + x0), .ref (gS g x1)])).length) Slot.unset).toArray = ls at hl ⊢
  have hl : lv_has ls 3 [(0, .ref (gb g + x0)), (1, .ref (gS g x1))] := hl
  generalize hH : s.heap = H at S ⊢
  generalize hlc : ([] : List Loc) = locs at S ⊢
  rw [f_X1_addText] at h
  refine lv_iconst (v := (0 : Int32)) hx hb dX1_addText_0 (by decide) ?_
  refine lv_istore_n (lv' := [(2, .int (0 : Int32)), (0, .ref (gb g + x0)), (1, .ref (gS g x1))]) hx hb dX1_addText_1 rfl hl (by decide) rfl (fun ls hl => ?_)
  exact w_X1_addText_2 C hr hSh N σ x0 x1 (0 : Int32) h hx0 hx1 H locs ls S (lv_sub hl [1, 2, 0] rfl)
theorem dX10_tookWord_0 : decode cX10_tookWord 0 = .ok (.aload_n 0, 1) := by decide +kernel
theorem dX10_tookWord_1 : decode cX10_tookWord 1 = .ok (.invokevirtual 28, 3) := by decide +kernel
theorem dX10_tookWord_4 : decode cX10_tookWord 4 = .ok (.aload_n 0, 1) := by decide +kernel
theorem dX10_tookWord_5 : decode cX10_tookWord 5 = .ok (.bipush 97, 2) := by decide +kernel
theorem dX10_tookWord_7 : decode cX10_tookWord 7 = .ok (.bipush 122, 2) := by decide +kernel
theorem dX10_tookWord_9 : decode cX10_tookWord 9 = .ok (.invokevirtual 31, 3) := by decide +kernel
theorem dX10_tookWord_12 : decode cX10_tookWord 12 = .ok (.istore_n 2, 1) := by decide +kernel
theorem dX10_tookWord_13 : decode cX10_tookWord 13 = .ok (.iload_n 2, 1) := by decide +kernel
theorem dX10_tookWord_14 : decode cX10_tookWord 14 = .ok (.aload_n 0, 1) := by decide +kernel
theorem dX10_tookWord_15 : decode cX10_tookWord 15 = .ok (.getfield 22, 3) := by decide +kernel
theorem dX10_tookWord_18 : decode cX10_tookWord 18 = .ok (.isub, 1) := by decide +kernel
theorem dX10_tookWord_19 : decode cX10_tookWord 19 = .ok (.aload_n 1, 1) := by decide +kernel
theorem dX10_tookWord_20 : decode cX10_tookWord 20 = .ok (.invokevirtual 39, 3) := by decide +kernel
theorem dX10_tookWord_23 : decode cX10_tookWord 23 = .ok (.if_icmp .eq 5, 3) := by decide +kernel
theorem dX10_tookWord_26 : decode cX10_tookWord 26 = .ok (.iconst 0, 1) := by decide +kernel
theorem dX10_tookWord_27 : decode cX10_tookWord 27 = .ok (.ireturn, 1) := by decide +kernel
theorem dX10_tookWord_28 : decode cX10_tookWord 28 = .ok (.iconst 0, 1) := by decide +kernel
theorem dX10_tookWord_29 : decode cX10_tookWord 29 = .ok (.istore_n 3, 1) := by decide +kernel
theorem dX10_tookWord_30 : decode cX10_tookWord 30 = .ok (.iload_n 3, 1) := by decide +kernel
theorem dX10_tookWord_31 : decode cX10_tookWord 31 = .ok (.aload_n 1, 1) := by decide +kernel
theorem dX10_tookWord_32 : decode cX10_tookWord 32 = .ok (.invokevirtual 39, 3) := by decide +kernel
theorem dX10_tookWord_35 : decode cX10_tookWord 35 = .ok (.if_icmp .ge 30, 3) := by decide +kernel
theorem dX10_tookWord_38 : decode cX10_tookWord 38 = .ok (.aload_n 0, 1) := by decide +kernel
theorem dX10_tookWord_39 : decode cX10_tookWord 39 = .ok (.getfield 9, 3) := by decide +kernel
theorem dX10_tookWord_42 : decode cX10_tookWord 42 = .ok (.aload_n 0, 1) := by decide +kernel
theorem dX10_tookWord_43 : decode cX10_tookWord 43 = .ok (.getfield 22, 3) := by decide +kernel
theorem dX10_tookWord_46 : decode cX10_tookWord 46 = .ok (.iload_n 3, 1) := by decide +kernel
theorem dX10_tookWord_47 : decode cX10_tookWord 47 = .ok (.iadd, 1) := by decide +kernel
theorem dX10_tookWord_48 : decode cX10_tookWord 48 = .ok (.baload, 1) := by decide +kernel
theorem dX10_tookWord_49 : decode cX10_tookWord 49 = .ok (.aload_n 1, 1) := by decide +kernel
theorem dX10_tookWord_50 : decode cX10_tookWord 50 = .ok (.iload_n 3, 1) := by decide +kernel
theorem dX10_tookWord_51 : decode cX10_tookWord 51 = .ok (.invokevirtual 44, 3) := by decide +kernel
theorem dX10_tookWord_54 : decode cX10_tookWord 54 = .ok (.if_icmp .eq 5, 3) := by decide +kernel
theorem dX10_tookWord_57 : decode cX10_tookWord 57 = .ok (.iconst 0, 1) := by decide +kernel
theorem dX10_tookWord_58 : decode cX10_tookWord 58 = .ok (.ireturn, 1) := by decide +kernel
theorem dX10_tookWord_59 : decode cX10_tookWord 59 = .ok (.iinc 3 1, 3) := by decide +kernel
theorem dX10_tookWord_62 : decode cX10_tookWord 62 = .ok (.goto (-32), 3) := by decide +kernel
theorem dX10_tookWord_65 : decode cX10_tookWord 65 = .ok (.aload_n 0, 1) := by decide +kernel
theorem dX10_tookWord_66 : decode cX10_tookWord 66 = .ok (.iload_n 2, 1) := by decide +kernel
theorem dX10_tookWord_67 : decode cX10_tookWord 67 = .ok (.putfield 22, 3) := by decide +kernel
theorem dX10_tookWord_70 : decode cX10_tookWord 70 = .ok (.iconst 1, 1) := by decide +kernel
theorem dX10_tookWord_71 : decode cX10_tookWord 71 = .ok (.ireturn, 1) := by decide +kernel
def f_X10_tookWord_30 (N : Nat) (R : Nat → Nat → Nat) : Nat → SI → Nat → Nat → Int32 → Int32 → Option (Int32 × SI)
  | 0, _, _, _, _, _ => none
  | n + 1, σ, x0, x1, x2, x3 => if (lnS x1) ≤ x3 then (sq (up σ x0 2 x2) (fun σ5 => some ((1 : Int32), σ5))) else (ck ((σ x0 2) + x3) 800 (ck x3 (strLen.getD x1 0) (if (σ (R x0 0) ((σ x0 2) + x3).toNatClampNeg) = (chS x1 x3) then (f_X10_tookWord_30 N R n σ x0 x1 x2 (x3 + 1)) else (some ((0 : Int32), σ)))))
def f_X10_tookWord (N : Nat) (R : Nat → Nat → Nat) (σ : SI) (x0 : Nat) (x1 : Nat) : Option (Int32 × SI) := bd (f_X10_skipSpaces N R σ x0) (fun _ σ1 => bd (f_X10_endOfRun N R σ1 x0 (97 : Int32) (122 : Int32)) (fun a2 σ2 => if (a2 - (σ2 x0 2)) = (lnS x1) then (f_X10_tookWord_30 N R N σ2 x0 x1 a2 (0 : Int32)) else (some ((0 : Int32), σ2))))
set_option maxHeartbeats 4000000 in
set_option maxRecDepth 100000 in
theorem w_X10_tookWord_30 {l : Launch} {g : GL} {p : Program} {e : Jvm.Env} {s : State} {m : MethodId} {args : Array Value} {below : List Frame} {meth : Method} {c : Code} {R : Nat → Nat → Nat} {L : Nat → Nat → Int64} {r : (Int32 × SI)} {N : Nat} (C : Cx l g p s m meth c cX10_tookWord 4 RX10) (hr : meth.sig.returnType = (some .boolean)) (hSh : ShR R) : ∀ (n : Nat) (σ : SI) (x0 : Nat) (x1 : Nat) (x2 : Int32) (x3 : Int32), f_X10_tookWord_30 N R n σ x0 x1 x2 x3 = some r → Ok 194 x0 10 → x1 < 13 → ∀ (H : Heap) (locs : List Loc) (ls : Array Slot), S2 g s σ R L H locs → lv_has ls 4 [(0, .ref (gb g + x0)), (1, .ref (gS g x1)), (2, .int x2), (3, .int x3)] → W p l e (rmd 5 0 0) s m args below meth c H locs 0 0 (MQ below (Qg g 194 (PI R L r)) args s 0 0 (gA g)) (F0 m 30 ls []) := by
  have hx := C.1
  have hb := C.2.1
  intro n
  induction n with
  | zero =>
    intro σ x0 x1 x2 x3 h
    cases (show (none : Option (Int32 × SI)) = some r from h)
  | succ n ih =>
    intro σ x0 x1 x2 x3 h hx0 hx1 H locs ls S hl
    rw [f_X10_tookWord_30] at h
    refine lv_iload_n hx hb dX10_tookWord_30 rfl (lv_at hl 3 rfl) ?_
    refine lv_aload_n hx hb dX10_tookWord_31 rfl (lv_at hl 1 rfl) ?_
    refine x_callJ C S hx1 (ok_length (L := L) hx1) ⟨jc_length, jn_RJ0, ml_RX10_39, ji_length, js_length⟩ ⟨by decide, by decide⟩ rfl (rm_ok (by decide) (by decide)) hl.1 rfl (Nat.le_of_ble_eq_true rfl) ⟨by decide, by decide⟩ dX10_tookWord_32 (fun H locs S => ?_)
    refine lv_icmp_ge (tgt := 65) hx hb dX10_tookWord_35 (by decide) (fun c4 => ?_) (fun c4 => ?_)
    · have h := it_p c4 h
      refine lv_aload_n hx hb dX10_tookWord_65 rfl (lv_at hl 0 rfl) ?_
      refine lv_iload_n hx hb dX10_tookWord_66 rfl (lv_at hl 2 rfl) ?_
      obtain ⟨σ5, hs5, h⟩ := sq_el h
      refine x_putI C S KX10 hx0 2 (by decide) rfl rfl rfl ⟨rfl, rfl⟩ fl_RX10_22 dX10_tookWord_67 hs5 (fun H locs S => ?_)
      refine lv_iconst (v := (1 : Int32)) hx hb dX10_tookWord_70 (by decide) ?_
      exact x_zret C S hr (by decide) h dX10_tookWord_71
    · have h := it_n c4 h
      refine lv_aload_n hx hb dX10_tookWord_38 rfl (lv_at hl 0 rfl) ?_
      have hR6 : Ok 194 (R x0 0) 20800 := hSh x0 10 0 20800 hx0.1 rfl
      refine x_getR C S KX10 hx0 0 (by decide) rfl rfl fl_RX10_9 hR6 dX10_tookWord_39 ?_
      refine lv_aload_n hx hb dX10_tookWord_42 rfl (lv_at hl 0 rfl) ?_
      refine x_getI C S KX10 hx0 2 (by decide) rfl rfl fl_RX10_22 dX10_tookWord_43 ?_
      refine lv_iload_n hx hb dX10_tookWord_46 rfl (lv_at hl 3 rfl) ?_
      refine lv_iadd hx hb dX10_tookWord_47 ?_
      obtain ⟨hi7, h⟩ := ck_el h
      refine x_bald (len := 800) C S (by decide) hR6 hi7 dX10_tookWord_48 ?_
      refine lv_aload_n hx hb dX10_tookWord_49 rfl (lv_at hl 1 rfl) ?_
      refine lv_iload_n hx hb dX10_tookWord_50 rfl (lv_at hl 3 rfl) ?_
      obtain ⟨hi8, h⟩ := ck_el h
      refine x_callJ C S hx1 (ok_charAt (L := L) hx1 hi8) ⟨jc_charAt, jn_RJ0, ml_RX10_44, ji_charAt, js_charAt⟩ ⟨by decide, by decide⟩ rfl (rm_ok (by decide) (by decide)) hl.1 rfl (Nat.le_of_ble_eq_true rfl) ⟨by decide, by decide⟩ dX10_tookWord_51 (fun H locs S => ?_)
      refine lv_icmp_eq (tgt := 59) hx hb dX10_tookWord_54 (by decide) (fun c9 => ?_) (fun c9 => ?_)
      · have h := it_p c9 h
        refine lv_iinc (v := x3 + 1) (lv' := [(3, .int (x3 + 1)), (0, .ref (gb g + x0)), (1, .ref (gS g x1)), (2, .int x2)]) hx hb dX10_tookWord_59 hl (k := 3) rfl rfl (by decide) rfl (fun ls hl => ?_)
        refine lv_goto (tgt := 30) hx hb dX10_tookWord_62 (by decide) ?_
        exact ih σ x0 x1 x2 (x3 + 1) h hx0 hx1 H locs ls S (lv_sub hl [1, 2, 3, 0] rfl)
      · have h := it_n c9 h
        refine lv_iconst (v := (0 : Int32)) hx hb dX10_tookWord_57 (by decide) ?_
        exact x_zret C S hr (by decide) h dX10_tookWord_58
set_option maxHeartbeats 4000000 in
set_option maxRecDepth 100000 in
theorem ok_X10_tookWord {l : Launch} {g : GL} {R : Nat → Nat → Nat} {L : Nat → Nat → Int64} {N : Nat} {σ : SI} {x0 : Nat} {x1 : Nat} {r : (Int32 × SI)} (h : f_X10_tookWord N R σ x0 x1 = some r) (hSh : ShR R) (hx0 : Ok 194 x0 10) (hx1 : x1 < 13) : Ct l g 5 yX10_tookWord cX10_tookWord 4 (some .boolean) 194 194 0 0 [.ref (gb g + x0), .ref (gS g x1)] (mkS σ R L) (PI R L r) := by
  refine Met.ofW (cc := cX10_tookWord) (maxL := 4) (ret := (some .boolean)) (by decide) rfl ?_
  intro p e s m args below meth c s₁ B hml hv
  obtain ⟨rfl, hE, hLo, hWd⟩ := hv
  have hr : meth.sig.returnType = (some .boolean) := B.returns
  have C : Cx l g p s m meth c cX10_tookWord 4 RX10 := ⟨B.exec, B.bytes, hml, findClass_of_methodNamed B.named, hE, hLo, B.notSynchronized⟩
  have S : S2 g s σ R L s.heap [] := ⟨hWd, va_S.rf⟩
  have hx := C.1
  have hb := C.2.1
  have hl := lv_entry ([.ref (gb g + x0), .ref (gS g x1)]) (n := 4) (Nat.le_of_ble_eq_true rfl)
  rw [lg_entry_eq]
  generalize (lg_sl ([.ref (gb g + x0), .ref (gS g x1)]) ++ List.replicate (4 - (lg_sl ([.ref (gb g + x0), .ref (gS g x1)])).length) Slot.unset).toArray = ls at hl ⊢
  have hl : lv_has ls 4 [(0, .ref (gb g + x0)), (1, .ref (gS g x1))] := hl
  generalize hH : s.heap = H at S ⊢
  generalize hlc : ([] : List Loc) = locs at S ⊢
  rw [f_X10_tookWord] at h
  refine lv_aload_n hx hb dX10_tookWord_0 rfl (lv_at hl 0 rfl) ?_
  obtain ⟨a1, σ1, hc1, h⟩ := bd_el h
  refine x_callVV C S KX10 hx0 (ok_X10_skipSpaces (L := L) hc1 hSh hx0) ⟨cd_X10_skipSpaces, ni_RX10, ml_RX10_28, in_X10_skipSpaces, sl_X10_skipSpaces⟩ ⟨by decide, by decide⟩ rfl (rm_ok (by decide) (by decide)) hl.1 rfl (Nat.le_of_ble_eq_true rfl) ⟨by decide, by decide⟩ dX10_tookWord_1 (fun H locs S => ?_)
  refine lv_aload_n hx hb dX10_tookWord_4 rfl (lv_at hl 0 rfl) ?_
  refine lv_bipush (v := (97 : Int32)) hx hb dX10_tookWord_5 (by decide) ?_
  refine lv_bipush (v := (122 : Int32)) hx hb dX10_tookWord_7 (by decide) ?_
  obtain ⟨a2, σ2, hc2, h⟩ := bd_el h
  refine x_callVI C S KX10 hx0 (ok_X10_endOfRun (L := L) hc2 hSh hx0) ⟨cd_X10_endOfRun, ni_RX10, ml_RX10_31, in_X10_endOfRun, sl_X10_endOfRun⟩ ⟨by decide, by decide⟩ rfl (rm_ok (by decide) (by decide)) hl.1 rfl (Nat.le_of_ble_eq_true rfl) ⟨by decide, by decide⟩ dX10_tookWord_9 (fun H locs S => ?_)
  refine lv_istore_n (lv' := [(2, .int a2), (0, .ref (gb g + x0)), (1, .ref (gS g x1))]) hx hb dX10_tookWord_12 rfl hl (by decide) rfl (fun ls hl => ?_)
  refine lv_iload_n hx hb dX10_tookWord_13 rfl (lv_at hl 0 rfl) ?_
  refine lv_aload_n hx hb dX10_tookWord_14 rfl (lv_at hl 1 rfl) ?_
  refine x_getI C S KX10 hx0 2 (by decide) rfl rfl fl_RX10_22 dX10_tookWord_15 ?_
  refine lv_isub hx hb dX10_tookWord_18 ?_
  refine lv_aload_n hx hb dX10_tookWord_19 rfl (lv_at hl 2 rfl) ?_
  refine x_callJ C S hx1 (ok_length (L := L) hx1) ⟨jc_length, jn_RJ0, ml_RX10_39, ji_length, js_length⟩ ⟨by decide, by decide⟩ rfl (rm_ok (by decide) (by decide)) hl.1 rfl (Nat.le_of_ble_eq_true rfl) ⟨by decide, by decide⟩ dX10_tookWord_20 (fun H locs S => ?_)
  refine lv_icmp_eq (tgt := 28) hx hb dX10_tookWord_23 (by decide) (fun c3 => ?_) (fun c3 => ?_)
  · have h := it_p c3 h
    refine lv_iconst (v := (0 : Int32)) hx hb dX10_tookWord_28 (by decide) ?_
    refine lv_istore_n (lv' := [(3, .int (0 : Int32)), (2, .int a2), (0, .ref (gb g + x0)), (1, .ref (gS g x1))]) hx hb dX10_tookWord_29 rfl hl (by decide) rfl (fun ls hl => ?_)
    exact w_X10_tookWord_30 C hr hSh N σ2 x0 x1 a2 (0 : Int32) h hx0 hx1 H locs ls S (lv_sub hl [2, 3, 1, 0] rfl)
  · have h := it_n c3 h
    refine lv_iconst (v := (0 : Int32)) hx hb dX10_tookWord_26 (by decide) ?_
    exact x_zret C S hr (by decide) h dX10_tookWord_27
theorem dX11_chargeCount_0 : decode cX11_chargeCount 0 = .ok (.aload_n 0, 1) := by decide +kernel
theorem dX11_chargeCount_1 : decode cX11_chargeCount 1 = .ok (.iload_n 1, 1) := by decide +kernel
theorem dX11_chargeCount_2 : decode cX11_chargeCount 2 = .ok (.invokevirtual 125, 3) := by decide +kernel
theorem dX11_chargeCount_5 : decode cX11_chargeCount 5 = .ok (.getfield 129, 3) := by decide +kernel
theorem dX11_chargeCount_8 : decode cX11_chargeCount 8 = .ok (.ireturn, 1) := by decide +kernel
def f_X11_chargeCount (N : Nat) (R : Nat → Nat → Nat) (σ : SI) (x0 : Nat) (x1 : Int32) : Option ((Int32 ⊕ Nat) × SI) := bdX (f_X11_blastAt N R σ x0 x1) (fun a2 σ2 => some (.inl (σ2 a2 7), σ2))
set_option maxHeartbeats 4000000 in
set_option maxRecDepth 100000 in
theorem ok_X11_chargeCount {l : Launch} {g : GL} {R : Nat → Nat → Nat} {L : Nat → Nat → Int64} {N : Nat} {σ : SI} {x0 : Nat} {x1 : Int32} {r : ((Int32 ⊕ Nat) × SI)} (h : f_X11_chargeCount N R σ x0 x1 = some r) (hSh : ShR R) (hx0 : Ok 194 x0 11) : CtX l g 8 yX11_chargeCount cX11_chargeCount 2 (some .int) 194 194 1 6 [.ref (gb g + x0), .int x1] (mkS σ R L) (PIX R L r) (PX R L r) := by
  refine vx_ofW (cc := cX11_chargeCount) (maxL := 2) (ret := (some .int)) (by decide) rfl ?_
  intro p e s m args below meth c s₁ B hml hT hv
  obtain ⟨rfl, hE, hLo, hWd⟩ := hv
  have hr : meth.sig.returnType = (some .int) := B.returns
  have C : Cx l g p s m meth c cX11_chargeCount 2 RX11 := ⟨B.exec, B.bytes, hml, findClass_of_methodNamed B.named, hE, hLo, B.notSynchronized⟩
  have S : S2 g s σ R L s.heap [] := ⟨hWd, va_S.rf⟩
  have hx := C.1
  have hb := C.2.1
  have hl := lv_entry ([.ref (gb g + x0), .int x1]) (n := 2) (Nat.le_of_ble_eq_true rfl)
  rw [lg_entry_eq]
  generalize (lg_sl ([.ref (gb g + x0), .int x1]) ++ List.replicate (2 - (lg_sl ([.ref (gb g + x0), .int x1])).length) Slot.unset).toArray = ls at hl ⊢
  have hl : lv_has ls 2 [(0, .ref (gb g + x0)), (1, .int x1)] := hl
  generalize hH : s.heap = H at S ⊢
  generalize hlc : ([] : List Loc) = locs at S ⊢
  rw [f_X11_chargeCount] at h
  refine lv_aload_n hx hb dX11_chargeCount_0 rfl (lv_at hl 0 rfl) ?_
  refine lv_iload_n hx hb dX11_chargeCount_1 rfl (lv_at hl 1 rfl) ?_
  rcases bdX_el h with ⟨a2, σ2, hc2, h⟩ | ⟨q2, σ2, hc2, hr2⟩
  · refine x_callXR C S KX11 hx0 (ok_X11_blastAt (L := L) hc2 hSh hx0) ⟨cd_X11_blastAt, ni_RX11, ml_RX11_125, in_X11_blastAt, sl_X11_blastAt⟩ ⟨by decide, by decide⟩ rfl (rm_ok (by decide) (by decide)) hl.1 rfl (Nat.le_of_ble_eq_true rfl) ⟨by decide, by decide⟩ dX11_chargeCount_2 hT ⟨by decide, by decide⟩ (fun H locs ho2 S => ?_)
    refine x_getI C S KX0 ho2 7 (by decide) rfl rfl fl_RX11_129 dX11_chargeCount_5 ?_
    exact x_iretX C S hr (by decide) (by decide) h dX11_chargeCount_8
  · exact x_callXX C S KX11 hx0 (ok_X11_blastAt (L := L) hc2 hSh hx0) n_PRX ⟨cd_X11_blastAt, ni_RX11, ml_RX11_125, in_X11_blastAt, sl_X11_blastAt⟩ ⟨by decide, by decide⟩ rfl (rm_ok (by decide) (by decide)) hl.1 rfl (Nat.le_of_ble_eq_true rfl) ⟨by decide, by decide⟩ dX11_chargeCount_2 hT ⟨by decide, by decide⟩ hr2
theorem dX11_chargeSize_0 : decode cX11_chargeSize 0 = .ok (.aload_n 0, 1) := by decide +kernel
theorem dX11_chargeSize_1 : decode cX11_chargeSize 1 = .ok (.iload_n 1, 1) := by decide +kernel
theorem dX11_chargeSize_2 : decode cX11_chargeSize 2 = .ok (.invokevirtual 125, 3) := by decide +kernel
theorem dX11_chargeSize_5 : decode cX11_chargeSize 5 = .ok (.astore_n 3, 1) := by decide +kernel
theorem dX11_chargeSize_6 : decode cX11_chargeSize 6 = .ok (.aload_n 0, 1) := by decide +kernel
theorem dX11_chargeSize_7 : decode cX11_chargeSize 7 = .ok (.aload_n 3, 1) := by decide +kernel
theorem dX11_chargeSize_8 : decode cX11_chargeSize 8 = .ok (.iload_n 2, 1) := by decide +kernel
theorem dX11_chargeSize_9 : decode cX11_chargeSize 9 = .ok (.invokevirtual 134, 3) := by decide +kernel
theorem dX11_chargeSize_12 : decode cX11_chargeSize 12 = .ok (.aload_n 3, 1) := by decide +kernel
theorem dX11_chargeSize_13 : decode cX11_chargeSize 13 = .ok (.getfield 138, 3) := by decide +kernel
theorem dX11_chargeSize_16 : decode cX11_chargeSize 16 = .ok (.iload_n 2, 1) := by decide +kernel
theorem dX11_chargeSize_17 : decode cX11_chargeSize 17 = .ok (.iaload, 1) := by decide +kernel
theorem dX11_chargeSize_18 : decode cX11_chargeSize 18 = .ok (.ireturn, 1) := by decide +kernel
def f_X11_chargeSize (N : Nat) (R : Nat → Nat → Nat) (σ : SI) (x0 : Nat) (x1 : Int32) (x2 : Int32) : Option ((Int32 ⊕ Nat) × SI) := bdX (f_X11_blastAt N R σ x0 x1) (fun a2 σ2 => bdX (f_X11_needCharge N R σ2 x0 a2 x2) (fun _ σ4 => ck x2 12 (some (.inl (σ4 (R a2 0) x2.toNatClampNeg), σ4))))
set_option maxHeartbeats 4000000 in
set_option maxRecDepth 100000 in
theorem ok_X11_chargeSize {l : Launch} {g : GL} {R : Nat → Nat → Nat} {L : Nat → Nat → Int64} {N : Nat} {σ : SI} {x0 : Nat} {x1 : Int32} {x2 : Int32} {r : ((Int32 ⊕ Nat) × SI)} (h : f_X11_chargeSize N R σ x0 x1 x2 = some r) (hSh : ShR R) (hx0 : Ok 194 x0 11) : CtX l g 8 yX11_chargeSize cX11_chargeSize 4 (some .int) 194 194 2 12 [.ref (gb g + x0), .int x1, .int x2] (mkS σ R L) (PIX R L r) (PX R L r) := by
  refine vx_ofW (cc := cX11_chargeSize) (maxL := 4) (ret := (some .int)) (by decide) rfl ?_
  intro p e s m args below meth c s₁ B hml hT hv
  obtain ⟨rfl, hE, hLo, hWd⟩ := hv
  have hr : meth.sig.returnType = (some .int) := B.returns
  have C : Cx l g p s m meth c cX11_chargeSize 4 RX11 := ⟨B.exec, B.bytes, hml, findClass_of_methodNamed B.named, hE, hLo, B.notSynchronized⟩
  have S : S2 g s σ R L s.heap [] := ⟨hWd, va_S.rf⟩
  have hx := C.1
  have hb := C.2.1
  have hl := lv_entry ([.ref (gb g + x0), .int x1, .int x2]) (n := 4) (Nat.le_of_ble_eq_true rfl)
  rw [lg_entry_eq]
  generalize (lg_sl ([.ref (gb g + x0), .int x1, .int x2]) ++ List.replicate (4 - (lg_sl ([.ref (gb g + x0), .int x1, .int x2])).length) Slot.unset).toArray = ls at hl ⊢
  have hl : lv_has ls 4 [(0, .ref (gb g + x0)), (1, .int x1), (2, .int x2)] := hl
  generalize hH : s.heap = H at S ⊢
  generalize hlc : ([] : List Loc) = locs at S ⊢
  rw [f_X11_chargeSize] at h
  refine lv_aload_n hx hb dX11_chargeSize_0 rfl (lv_at hl 0 rfl) ?_
  refine lv_iload_n hx hb dX11_chargeSize_1 rfl (lv_at hl 1 rfl) ?_
  rcases bdX_el h with ⟨a2, σ2, hc2, h⟩ | ⟨q2, σ2, hc2, hr2⟩
  · refine x_callXR C S KX11 hx0 (ok_X11_blastAt (L := L) hc2 hSh hx0) ⟨cd_X11_blastAt, ni_RX11, ml_RX11_125, in_X11_blastAt, sl_X11_blastAt⟩ ⟨by decide, by decide⟩ rfl (rm_ok (by decide) (by decide)) hl.1 rfl (Nat.le_of_ble_eq_true rfl) ⟨by decide, by decide⟩ dX11_chargeSize_2 hT ⟨by decide, by decide⟩ (fun H locs ho2 S => ?_)
    refine lv_astore_n (lv' := [(3, .ref (gb g + a2)), (0, .ref (gb g + x0)), (1, .int x1), (2, .int x2)]) hx hb dX11_chargeSize_5 rfl hl (by decide) rfl (fun ls hl => ?_)
    refine lv_aload_n hx hb dX11_chargeSize_6 rfl (lv_at hl 1 rfl) ?_
    refine lv_aload_n hx hb dX11_chargeSize_7 rfl (lv_at hl 0 rfl) ?_
    refine lv_iload_n hx hb dX11_chargeSize_8 rfl (lv_at hl 3 rfl) ?_
    rcases bdX_el h with ⟨a4, σ4, hc4, h⟩ | ⟨q4, σ4, hc4, hr4⟩
    · refine x_callXV C S KX11 hx0 (ok_X11_needCharge (L := L) hc4 hSh hx0 ho2) ⟨cd_X11_needCharge, ni_RX11, ml_RX11_134, in_X11_needCharge, sl_X11_needCharge⟩ ⟨by decide, by decide⟩ rfl (rm_ok (by decide) (by decide)) hl.1 rfl (Nat.le_of_ble_eq_true rfl) ⟨by decide, by decide⟩ dX11_chargeSize_9 hT ⟨by decide, by decide⟩ (fun H locs S => ?_)
      refine lv_aload_n hx hb dX11_chargeSize_12 rfl (lv_at hl 0 rfl) ?_
      have hR5 : Ok 194 (R a2 0) 10012 := hSh a2 0 0 10012 ho2.1 rfl
      refine x_getR C S KX0 ho2 0 (by decide) rfl rfl fl_RX11_138 hR5 dX11_chargeSize_13 ?_
      refine lv_iload_n hx hb dX11_chargeSize_16 rfl (lv_at hl 3 rfl) ?_
      obtain ⟨hi6, h⟩ := ck_el h
      refine x_iald (len := 12) C S (by decide) hR5 hi6 dX11_chargeSize_17 ?_
      exact x_iretX C S hr (by decide) (by decide) h dX11_chargeSize_18
    · exact x_callXX C S KX11 hx0 (ok_X11_needCharge (L := L) hc4 hSh hx0 ho2) n_PVX ⟨cd_X11_needCharge, ni_RX11, ml_RX11_134, in_X11_needCharge, sl_X11_needCharge⟩ ⟨by decide, by decide⟩ rfl (rm_ok (by decide) (by decide)) hl.1 rfl (Nat.le_of_ble_eq_true rfl) ⟨by decide, by decide⟩ dX11_chargeSize_9 hT ⟨by decide, by decide⟩ hr4
  · exact x_callXX C S KX11 hx0 (ok_X11_blastAt (L := L) hc2 hSh hx0) n_PRX ⟨cd_X11_blastAt, ni_RX11, ml_RX11_125, in_X11_blastAt, sl_X11_blastAt⟩ ⟨by decide, by decide⟩ rfl (rm_ok (by decide) (by decide)) hl.1 rfl (Nat.le_of_ble_eq_true rfl) ⟨by decide, by decide⟩ dX11_chargeSize_2 hT ⟨by decide, by decide⟩ hr2
theorem dX11_delay_0 : decode cX11_delay 0 = .ok (.aload_n 0, 1) := by decide +kernel
theorem dX11_delay_1 : decode cX11_delay 1 = .ok (.iload_n 1, 1) := by decide +kernel
theorem dX11_delay_2 : decode cX11_delay 2 = .ok (.invokevirtual 125, 3) := by decide +kernel
theorem dX11_delay_5 : decode cX11_delay 5 = .ok (.astore_n 3, 1) := by decide +kernel
theorem dX11_delay_6 : decode cX11_delay 6 = .ok (.aload_n 0, 1) := by decide +kernel
theorem dX11_delay_7 : decode cX11_delay 7 = .ok (.aload_n 3, 1) := by decide +kernel
theorem dX11_delay_8 : decode cX11_delay 8 = .ok (.iload_n 2, 1) := by decide +kernel
theorem dX11_delay_9 : decode cX11_delay 9 = .ok (.invokevirtual 134, 3) := by decide +kernel
theorem dX11_delay_12 : decode cX11_delay 12 = .ok (.aload_n 3, 1) := by decide +kernel
theorem dX11_delay_13 : decode cX11_delay 13 = .ok (.getfield 141, 3) := by decide +kernel
theorem dX11_delay_16 : decode cX11_delay 16 = .ok (.iload_n 2, 1) := by decide +kernel
theorem dX11_delay_17 : decode cX11_delay 17 = .ok (.iaload, 1) := by decide +kernel
theorem dX11_delay_18 : decode cX11_delay 18 = .ok (.ireturn, 1) := by decide +kernel
def f_X11_delay (N : Nat) (R : Nat → Nat → Nat) (σ : SI) (x0 : Nat) (x1 : Int32) (x2 : Int32) : Option ((Int32 ⊕ Nat) × SI) := bdX (f_X11_blastAt N R σ x0 x1) (fun a2 σ2 => bdX (f_X11_needCharge N R σ2 x0 a2 x2) (fun _ σ4 => ck x2 12 (some (.inl (σ4 (R a2 1) x2.toNatClampNeg), σ4))))
set_option maxHeartbeats 4000000 in
set_option maxRecDepth 100000 in
theorem ok_X11_delay {l : Launch} {g : GL} {R : Nat → Nat → Nat} {L : Nat → Nat → Int64} {N : Nat} {σ : SI} {x0 : Nat} {x1 : Int32} {x2 : Int32} {r : ((Int32 ⊕ Nat) × SI)} (h : f_X11_delay N R σ x0 x1 x2 = some r) (hSh : ShR R) (hx0 : Ok 194 x0 11) : CtX l g 8 yX11_delay cX11_delay 4 (some .int) 194 194 2 12 [.ref (gb g + x0), .int x1, .int x2] (mkS σ R L) (PIX R L r) (PX R L r) := by
  refine vx_ofW (cc := cX11_delay) (maxL := 4) (ret := (some .int)) (by decide) rfl ?_
  intro p e s m args below meth c s₁ B hml hT hv
  obtain ⟨rfl, hE, hLo, hWd⟩ := hv
  have hr : meth.sig.returnType = (some .int) := B.returns
  have C : Cx l g p s m meth c cX11_delay 4 RX11 := ⟨B.exec, B.bytes, hml, findClass_of_methodNamed B.named, hE, hLo, B.notSynchronized⟩
  have S : S2 g s σ R L s.heap [] := ⟨hWd, va_S.rf⟩
  have hx := C.1
  have hb := C.2.1
  have hl := lv_entry ([.ref (gb g + x0), .int x1, .int x2]) (n := 4) (Nat.le_of_ble_eq_true rfl)
  rw [lg_entry_eq]
  generalize (lg_sl ([.ref (gb g + x0), .int x1, .int x2]) ++ List.replicate (4 - (lg_sl ([.ref (gb g + x0), .int x1, .int x2])).length) Slot.unset).toArray = ls at hl ⊢
  have hl : lv_has ls 4 [(0, .ref (gb g + x0)), (1, .int x1), (2, .int x2)] := hl
  generalize hH : s.heap = H at S ⊢
  generalize hlc : ([] : List Loc) = locs at S ⊢
  rw [f_X11_delay] at h
  refine lv_aload_n hx hb dX11_delay_0 rfl (lv_at hl 0 rfl) ?_
  refine lv_iload_n hx hb dX11_delay_1 rfl (lv_at hl 1 rfl) ?_
  rcases bdX_el h with ⟨a2, σ2, hc2, h⟩ | ⟨q2, σ2, hc2, hr2⟩
  · refine x_callXR C S KX11 hx0 (ok_X11_blastAt (L := L) hc2 hSh hx0) ⟨cd_X11_blastAt, ni_RX11, ml_RX11_125, in_X11_blastAt, sl_X11_blastAt⟩ ⟨by decide, by decide⟩ rfl (rm_ok (by decide) (by decide)) hl.1 rfl (Nat.le_of_ble_eq_true rfl) ⟨by decide, by decide⟩ dX11_delay_2 hT ⟨by decide, by decide⟩ (fun H locs ho2 S => ?_)
    refine lv_astore_n (lv' := [(3, .ref (gb g + a2)), (0, .ref (gb g + x0)), (1, .int x1), (2, .int x2)]) hx hb dX11_delay_5 rfl hl (by decide) rfl (fun ls hl => ?_)
    refine lv_aload_n hx hb dX11_delay_6 rfl (lv_at hl 1 rfl) ?_
    refine lv_aload_n hx hb dX11_delay_7 rfl (lv_at hl 0 rfl) ?_
    refine lv_iload_n hx hb dX11_delay_8 rfl (lv_at hl 3 rfl) ?_
    rcases bdX_el h with ⟨a4, σ4, hc4, h⟩ | ⟨q4, σ4, hc4, hr4⟩
    · refine x_callXV C S KX11 hx0 (ok_X11_needCharge (L := L) hc4 hSh hx0 ho2) ⟨cd_X11_needCharge, ni_RX11, ml_RX11_134, in_X11_needCharge, sl_X11_needCharge⟩ ⟨by decide, by decide⟩ rfl (rm_ok (by decide) (by decide)) hl.1 rfl (Nat.le_of_ble_eq_true rfl) ⟨by decide, by decide⟩ dX11_delay_9 hT ⟨by decide, by decide⟩ (fun H locs S => ?_)
      refine lv_aload_n hx hb dX11_delay_12 rfl (lv_at hl 0 rfl) ?_
      have hR5 : Ok 194 (R a2 1) 10012 := hSh a2 0 1 10012 ho2.1 rfl
      refine x_getR C S KX0 ho2 1 (by decide) rfl rfl fl_RX11_141 hR5 dX11_delay_13 ?_
      refine lv_iload_n hx hb dX11_delay_16 rfl (lv_at hl 3 rfl) ?_
      obtain ⟨hi6, h⟩ := ck_el h
      refine x_iald (len := 12) C S (by decide) hR5 hi6 dX11_delay_17 ?_
      exact x_iretX C S hr (by decide) (by decide) h dX11_delay_18
    · exact x_callXX C S KX11 hx0 (ok_X11_needCharge (L := L) hc4 hSh hx0 ho2) n_PVX ⟨cd_X11_needCharge, ni_RX11, ml_RX11_134, in_X11_needCharge, sl_X11_needCharge⟩ ⟨by decide, by decide⟩ rfl (rm_ok (by decide) (by decide)) hl.1 rfl (Nat.le_of_ble_eq_true rfl) ⟨by decide, by decide⟩ dX11_delay_9 hT ⟨by decide, by decide⟩ hr4
  · exact x_callXX C S KX11 hx0 (ok_X11_blastAt (L := L) hc2 hSh hx0) n_PRX ⟨cd_X11_blastAt, ni_RX11, ml_RX11_125, in_X11_blastAt, sl_X11_blastAt⟩ ⟨by decide, by decide⟩ rfl (rm_ok (by decide) (by decide)) hl.1 rfl (Nat.le_of_ble_eq_true rfl) ⟨by decide, by decide⟩ dX11_delay_2 hT ⟨by decide, by decide⟩ hr2
theorem dX11_totalSize_0 : decode cX11_totalSize 0 = .ok (.aload_n 0, 1) := by decide +kernel
theorem dX11_totalSize_1 : decode cX11_totalSize 1 = .ok (.iload_n 1, 1) := by decide +kernel
theorem dX11_totalSize_2 : decode cX11_totalSize 2 = .ok (.invokevirtual 125, 3) := by decide +kernel
theorem dX11_totalSize_5 : decode cX11_totalSize 5 = .ok (.invokevirtual 144, 3) := by decide +kernel
theorem dX11_totalSize_8 : decode cX11_totalSize 8 = .ok (.ireturn, 1) := by decide +kernel
def f_X11_totalSize (N : Nat) (R : Nat → Nat → Nat) (σ : SI) (x0 : Nat) (x1 : Int32) : Option ((Int32 ⊕ Nat) × SI) := bdX (f_X11_blastAt N R σ x0 x1) (fun a2 σ2 => bd (f_X0_sumOfSizes N R σ2 a2) (fun a3 σ3 => some (.inl a3, σ3)))
set_option maxHeartbeats 4000000 in
set_option maxRecDepth 100000 in
theorem ok_X11_totalSize {l : Launch} {g : GL} {R : Nat → Nat → Nat} {L : Nat → Nat → Int64} {N : Nat} {σ : SI} {x0 : Nat} {x1 : Int32} {r : ((Int32 ⊕ Nat) × SI)} (h : f_X11_totalSize N R σ x0 x1 = some r) (hSh : ShR R) (hx0 : Ok 194 x0 11) : CtX l g 8 yX11_totalSize cX11_totalSize 2 (some .int) 194 194 1 6 [.ref (gb g + x0), .int x1] (mkS σ R L) (PIX R L r) (PX R L r) := by
  refine vx_ofW (cc := cX11_totalSize) (maxL := 2) (ret := (some .int)) (by decide) rfl ?_
  intro p e s m args below meth c s₁ B hml hT hv
  obtain ⟨rfl, hE, hLo, hWd⟩ := hv
  have hr : meth.sig.returnType = (some .int) := B.returns
  have C : Cx l g p s m meth c cX11_totalSize 2 RX11 := ⟨B.exec, B.bytes, hml, findClass_of_methodNamed B.named, hE, hLo, B.notSynchronized⟩
  have S : S2 g s σ R L s.heap [] := ⟨hWd, va_S.rf⟩
  have hx := C.1
  have hb := C.2.1
  have hl := lv_entry ([.ref (gb g + x0), .int x1]) (n := 2) (Nat.le_of_ble_eq_true rfl)
  rw [lg_entry_eq]
  generalize (lg_sl ([.ref (gb g + x0), .int x1]) ++ List.replicate (2 - (lg_sl ([.ref (gb g + x0), .int x1])).length) Slot.unset).toArray = ls at hl ⊢
  have hl : lv_has ls 2 [(0, .ref (gb g + x0)), (1, .int x1)] := hl
  generalize hH : s.heap = H at S ⊢
  generalize hlc : ([] : List Loc) = locs at S ⊢
  rw [f_X11_totalSize] at h
  refine lv_aload_n hx hb dX11_totalSize_0 rfl (lv_at hl 0 rfl) ?_
  refine lv_iload_n hx hb dX11_totalSize_1 rfl (lv_at hl 1 rfl) ?_
  rcases bdX_el h with ⟨a2, σ2, hc2, h⟩ | ⟨q2, σ2, hc2, hr2⟩
  · refine x_callXR C S KX11 hx0 (ok_X11_blastAt (L := L) hc2 hSh hx0) ⟨cd_X11_blastAt, ni_RX11, ml_RX11_125, in_X11_blastAt, sl_X11_blastAt⟩ ⟨by decide, by decide⟩ rfl (rm_ok (by decide) (by decide)) hl.1 rfl (Nat.le_of_ble_eq_true rfl) ⟨by decide, by decide⟩ dX11_totalSize_2 hT ⟨by decide, by decide⟩ (fun H locs ho2 S => ?_)
    obtain ⟨a3, σ3, hc3, h⟩ := bd_el h
    refine x_callVI C S KX0 ho2 (ok_X0_sumOfSizes (L := L) hc3 hSh ho2) ⟨cd_X0_sumOfSizes, ni_RX0, ml_RX11_144, in_X0_sumOfSizes, sl_X0_sumOfSizes⟩ ⟨by decide, by decide⟩ rfl (rm_ok (by decide) (by decide)) hl.1 rfl (Nat.le_of_ble_eq_true rfl) ⟨by decide, by decide⟩ dX11_totalSize_5 (fun H locs S => ?_)
    exact x_iretX C S hr (by decide) (by decide) h dX11_totalSize_8
  · exact x_callXX C S KX11 hx0 (ok_X11_blastAt (L := L) hc2 hSh hx0) n_PRX ⟨cd_X11_blastAt, ni_RX11, ml_RX11_125, in_X11_blastAt, sl_X11_blastAt⟩ ⟨by decide, by decide⟩ rfl (rm_ok (by decide) (by decide)) hl.1 rfl (Nat.le_of_ble_eq_true rfl) ⟨by decide, by decide⟩ dX11_totalSize_2 hT ⟨by decide, by decide⟩ hr2
theorem dX11_delaySpan_0 : decode cX11_delaySpan 0 = .ok (.aload_n 0, 1) := by decide +kernel
theorem dX11_delaySpan_1 : decode cX11_delaySpan 1 = .ok (.iload_n 1, 1) := by decide +kernel
theorem dX11_delaySpan_2 : decode cX11_delaySpan 2 = .ok (.invokevirtual 125, 3) := by decide +kernel
theorem dX11_delaySpan_5 : decode cX11_delaySpan 5 = .ok (.invokevirtual 147, 3) := by decide +kernel
theorem dX11_delaySpan_8 : decode cX11_delaySpan 8 = .ok (.ireturn, 1) := by decide +kernel
def f_X11_delaySpan (N : Nat) (R : Nat → Nat → Nat) (σ : SI) (x0 : Nat) (x1 : Int32) : Option ((Int32 ⊕ Nat) × SI) := bdX (f_X11_blastAt N R σ x0 x1) (fun a2 σ2 => bd (f_X0_spanOfDelays N R σ2 a2) (fun a3 σ3 => some (.inl a3, σ3)))
set_option maxHeartbeats 4000000 in
set_option maxRecDepth 100000 in
theorem ok_X11_delaySpan {l : Launch} {g : GL} {R : Nat → Nat → Nat} {L : Nat → Nat → Int64} {N : Nat} {σ : SI} {x0 : Nat} {x1 : Int32} {r : ((Int32 ⊕ Nat) × SI)} (h : f_X11_delaySpan N R σ x0 x1 = some r) (hSh : ShR R) (hx0 : Ok 194 x0 11) : CtX l g 8 yX11_delaySpan cX11_delaySpan 2 (some .int) 194 194 1 6 [.ref (gb g + x0), .int x1] (mkS σ R L) (PIX R L r) (PX R L r) := by
  refine vx_ofW (cc := cX11_delaySpan) (maxL := 2) (ret := (some .int)) (by decide) rfl ?_
  intro p e s m args below meth c s₁ B hml hT hv
  obtain ⟨rfl, hE, hLo, hWd⟩ := hv
  have hr : meth.sig.returnType = (some .int) := B.returns
  have C : Cx l g p s m meth c cX11_delaySpan 2 RX11 := ⟨B.exec, B.bytes, hml, findClass_of_methodNamed B.named, hE, hLo, B.notSynchronized⟩
  have S : S2 g s σ R L s.heap [] := ⟨hWd, va_S.rf⟩
  have hx := C.1
  have hb := C.2.1
  have hl := lv_entry ([.ref (gb g + x0), .int x1]) (n := 2) (Nat.le_of_ble_eq_true rfl)
  rw [lg_entry_eq]
  generalize (lg_sl ([.ref (gb g + x0), .int x1]) ++ List.replicate (2 - (lg_sl ([.ref (gb g + x0), .int x1])).length) Slot.unset).toArray = ls at hl ⊢
  have hl : lv_has ls 2 [(0, .ref (gb g + x0)), (1, .int x1)] := hl
  generalize hH : s.heap = H at S ⊢
  generalize hlc : ([] : List Loc) = locs at S ⊢
  rw [f_X11_delaySpan] at h
  refine lv_aload_n hx hb dX11_delaySpan_0 rfl (lv_at hl 0 rfl) ?_
  refine lv_iload_n hx hb dX11_delaySpan_1 rfl (lv_at hl 1 rfl) ?_
  rcases bdX_el h with ⟨a2, σ2, hc2, h⟩ | ⟨q2, σ2, hc2, hr2⟩
  · refine x_callXR C S KX11 hx0 (ok_X11_blastAt (L := L) hc2 hSh hx0) ⟨cd_X11_blastAt, ni_RX11, ml_RX11_125, in_X11_blastAt, sl_X11_blastAt⟩ ⟨by decide, by decide⟩ rfl (rm_ok (by decide) (by decide)) hl.1 rfl (Nat.le_of_ble_eq_true rfl) ⟨by decide, by decide⟩ dX11_delaySpan_2 hT ⟨by decide, by decide⟩ (fun H locs ho2 S => ?_)
    obtain ⟨a3, σ3, hc3, h⟩ := bd_el h
    refine x_callVI C S KX0 ho2 (ok_X0_spanOfDelays (L := L) hc3 hSh ho2) ⟨cd_X0_spanOfDelays, ni_RX0, ml_RX11_147, in_X0_spanOfDelays, sl_X0_spanOfDelays⟩ ⟨by decide, by decide⟩ rfl (rm_ok (by decide) (by decide)) hl.1 rfl (Nat.le_of_ble_eq_true rfl) ⟨by decide, by decide⟩ dX11_delaySpan_5 (fun H locs S => ?_)
    exact x_iretX C S hr (by decide) (by decide) h dX11_delaySpan_8
  · exact x_callXX C S KX11 hx0 (ok_X11_blastAt (L := L) hc2 hSh hx0) n_PRX ⟨cd_X11_blastAt, ni_RX11, ml_RX11_125, in_X11_blastAt, sl_X11_blastAt⟩ ⟨by decide, by decide⟩ rfl (rm_ok (by decide) (by decide)) hl.1 rfl (Nat.le_of_ble_eq_true rfl) ⟨by decide, by decide⟩ dX11_delaySpan_2 hT ⟨by decide, by decide⟩ hr2
theorem dX11_windowSize_0 : decode cX11_windowSize 0 = .ok (.aload_n 0, 1) := by decide +kernel
theorem dX11_windowSize_1 : decode cX11_windowSize 1 = .ok (.iload_n 1, 1) := by decide +kernel
theorem dX11_windowSize_2 : decode cX11_windowSize 2 = .ok (.invokevirtual 125, 3) := by decide +kernel
theorem dX11_windowSize_5 : decode cX11_windowSize 5 = .ok (.getfield 150, 3) := by decide +kernel
theorem dX11_windowSize_8 : decode cX11_windowSize 8 = .ok (.ireturn, 1) := by decide +kernel
def f_X11_windowSize (N : Nat) (R : Nat → Nat → Nat) (σ : SI) (x0 : Nat) (x1 : Int32) : Option ((Int32 ⊕ Nat) × SI) := bdX (f_X11_blastAt N R σ x0 x1) (fun a2 σ2 => some (.inl (σ2 a2 8), σ2))
set_option maxHeartbeats 4000000 in
set_option maxRecDepth 100000 in
theorem ok_X11_windowSize {l : Launch} {g : GL} {R : Nat → Nat → Nat} {L : Nat → Nat → Int64} {N : Nat} {σ : SI} {x0 : Nat} {x1 : Int32} {r : ((Int32 ⊕ Nat) × SI)} (h : f_X11_windowSize N R σ x0 x1 = some r) (hSh : ShR R) (hx0 : Ok 194 x0 11) : CtX l g 8 yX11_windowSize cX11_windowSize 2 (some .int) 194 194 1 6 [.ref (gb g + x0), .int x1] (mkS σ R L) (PIX R L r) (PX R L r) := by
  refine vx_ofW (cc := cX11_windowSize) (maxL := 2) (ret := (some .int)) (by decide) rfl ?_
  intro p e s m args below meth c s₁ B hml hT hv
  obtain ⟨rfl, hE, hLo, hWd⟩ := hv
  have hr : meth.sig.returnType = (some .int) := B.returns
  have C : Cx l g p s m meth c cX11_windowSize 2 RX11 := ⟨B.exec, B.bytes, hml, findClass_of_methodNamed B.named, hE, hLo, B.notSynchronized⟩
  have S : S2 g s σ R L s.heap [] := ⟨hWd, va_S.rf⟩
  have hx := C.1
  have hb := C.2.1
  have hl := lv_entry ([.ref (gb g + x0), .int x1]) (n := 2) (Nat.le_of_ble_eq_true rfl)
  rw [lg_entry_eq]
  generalize (lg_sl ([.ref (gb g + x0), .int x1]) ++ List.replicate (2 - (lg_sl ([.ref (gb g + x0), .int x1])).length) Slot.unset).toArray = ls at hl ⊢
  have hl : lv_has ls 2 [(0, .ref (gb g + x0)), (1, .int x1)] := hl
  generalize hH : s.heap = H at S ⊢
  generalize hlc : ([] : List Loc) = locs at S ⊢
  rw [f_X11_windowSize] at h
  refine lv_aload_n hx hb dX11_windowSize_0 rfl (lv_at hl 0 rfl) ?_
  refine lv_iload_n hx hb dX11_windowSize_1 rfl (lv_at hl 1 rfl) ?_
  rcases bdX_el h with ⟨a2, σ2, hc2, h⟩ | ⟨q2, σ2, hc2, hr2⟩
  · refine x_callXR C S KX11 hx0 (ok_X11_blastAt (L := L) hc2 hSh hx0) ⟨cd_X11_blastAt, ni_RX11, ml_RX11_125, in_X11_blastAt, sl_X11_blastAt⟩ ⟨by decide, by decide⟩ rfl (rm_ok (by decide) (by decide)) hl.1 rfl (Nat.le_of_ble_eq_true rfl) ⟨by decide, by decide⟩ dX11_windowSize_2 hT ⟨by decide, by decide⟩ (fun H locs ho2 S => ?_)
    refine x_getI C S KX0 ho2 8 (by decide) rfl rfl fl_RX11_150 dX11_windowSize_5 ?_
    exact x_iretX C S hr (by decide) (by decide) h dX11_windowSize_8
  · exact x_callXX C S KX11 hx0 (ok_X11_blastAt (L := L) hc2 hSh hx0) n_PRX ⟨cd_X11_blastAt, ni_RX11, ml_RX11_125, in_X11_blastAt, sl_X11_blastAt⟩ ⟨by decide, by decide⟩ rfl (rm_ok (by decide) (by decide)) hl.1 rfl (Nat.le_of_ble_eq_true rfl) ⟨by decide, by decide⟩ dX11_windowSize_2 hT ⟨by decide, by decide⟩ hr2
theorem dX11_windowStart_0 : decode cX11_windowStart 0 = .ok (.aload_n 0, 1) := by decide +kernel
theorem dX11_windowStart_1 : decode cX11_windowStart 1 = .ok (.iload_n 1, 1) := by decide +kernel
theorem dX11_windowStart_2 : decode cX11_windowStart 2 = .ok (.invokevirtual 125, 3) := by decide +kernel
theorem dX11_windowStart_5 : decode cX11_windowStart 5 = .ok (.getfield 153, 3) := by decide +kernel
theorem dX11_windowStart_8 : decode cX11_windowStart 8 = .ok (.ireturn, 1) := by decide +kernel
def f_X11_windowStart (N : Nat) (R : Nat → Nat → Nat) (σ : SI) (x0 : Nat) (x1 : Int32) : Option ((Int32 ⊕ Nat) × SI) := bdX (f_X11_blastAt N R σ x0 x1) (fun a2 σ2 => some (.inl (σ2 a2 9), σ2))
set_option maxHeartbeats 4000000 in
set_option maxRecDepth 100000 in
theorem ok_X11_windowStart {l : Launch} {g : GL} {R : Nat → Nat → Nat} {L : Nat → Nat → Int64} {N : Nat} {σ : SI} {x0 : Nat} {x1 : Int32} {r : ((Int32 ⊕ Nat) × SI)} (h : f_X11_windowStart N R σ x0 x1 = some r) (hSh : ShR R) (hx0 : Ok 194 x0 11) : CtX l g 8 yX11_windowStart cX11_windowStart 2 (some .int) 194 194 1 6 [.ref (gb g + x0), .int x1] (mkS σ R L) (PIX R L r) (PX R L r) := by
  refine vx_ofW (cc := cX11_windowStart) (maxL := 2) (ret := (some .int)) (by decide) rfl ?_
  intro p e s m args below meth c s₁ B hml hT hv
  obtain ⟨rfl, hE, hLo, hWd⟩ := hv
  have hr : meth.sig.returnType = (some .int) := B.returns
  have C : Cx l g p s m meth c cX11_windowStart 2 RX11 := ⟨B.exec, B.bytes, hml, findClass_of_methodNamed B.named, hE, hLo, B.notSynchronized⟩
  have S : S2 g s σ R L s.heap [] := ⟨hWd, va_S.rf⟩
  have hx := C.1
  have hb := C.2.1
  have hl := lv_entry ([.ref (gb g + x0), .int x1]) (n := 2) (Nat.le_of_ble_eq_true rfl)
  rw [lg_entry_eq]
  generalize (lg_sl ([.ref (gb g + x0), .int x1]) ++ List.replicate (2 - (lg_sl ([.ref (gb g + x0), .int x1])).length) Slot.unset).toArray = ls at hl ⊢
  have hl : lv_has ls 2 [(0, .ref (gb g + x0)), (1, .int x1)] := hl
  generalize hH : s.heap = H at S ⊢
  generalize hlc : ([] : List Loc) = locs at S ⊢
  rw [f_X11_windowStart] at h
  refine lv_aload_n hx hb dX11_windowStart_0 rfl (lv_at hl 0 rfl) ?_
  refine lv_iload_n hx hb dX11_windowStart_1 rfl (lv_at hl 1 rfl) ?_
  rcases bdX_el h with ⟨a2, σ2, hc2, h⟩ | ⟨q2, σ2, hc2, hr2⟩
  · refine x_callXR C S KX11 hx0 (ok_X11_blastAt (L := L) hc2 hSh hx0) ⟨cd_X11_blastAt, ni_RX11, ml_RX11_125, in_X11_blastAt, sl_X11_blastAt⟩ ⟨by decide, by decide⟩ rfl (rm_ok (by decide) (by decide)) hl.1 rfl (Nat.le_of_ble_eq_true rfl) ⟨by decide, by decide⟩ dX11_windowStart_2 hT ⟨by decide, by decide⟩ (fun H locs ho2 S => ?_)
    refine x_getI C S KX0 ho2 9 (by decide) rfl rfl fl_RX11_153 dX11_windowStart_5 ?_
    exact x_iretX C S hr (by decide) (by decide) h dX11_windowStart_8
  · exact x_callXX C S KX11 hx0 (ok_X11_blastAt (L := L) hc2 hSh hx0) n_PRX ⟨cd_X11_blastAt, ni_RX11, ml_RX11_125, in_X11_blastAt, sl_X11_blastAt⟩ ⟨by decide, by decide⟩ rfl (rm_ok (by decide) (by decide)) hl.1 rfl (Nat.le_of_ble_eq_true rfl) ⟨by decide, by decide⟩ dX11_windowStart_2 hT ⟨by decide, by decide⟩ hr2
theorem dX11_vibration_0 : decode cX11_vibration 0 = .ok (.aload_n 0, 1) := by decide +kernel
theorem dX11_vibration_1 : decode cX11_vibration 1 = .ok (.iload_n 1, 1) := by decide +kernel
theorem dX11_vibration_2 : decode cX11_vibration 2 = .ok (.invokevirtual 125, 3) := by decide +kernel
theorem dX11_vibration_5 : decode cX11_vibration 5 = .ok (.astore_n 3, 1) := by decide +kernel
theorem dX11_vibration_6 : decode cX11_vibration 6 = .ok (.aload_n 0, 1) := by decide +kernel
theorem dX11_vibration_7 : decode cX11_vibration 7 = .ok (.iload_n 2, 1) := by decide +kernel
theorem dX11_vibration_8 : decode cX11_vibration 8 = .ok (.invokevirtual 156, 3) := by decide +kernel
theorem dX11_vibration_11 : decode cX11_vibration 11 = .ok (.pop, 1) := by decide +kernel
theorem dX11_vibration_12 : decode cX11_vibration 12 = .ok (.aload_n 3, 1) := by decide +kernel
theorem dX11_vibration_13 : decode cX11_vibration 13 = .ok (.iload_n 2, 1) := by decide +kernel
theorem dX11_vibration_14 : decode cX11_vibration 14 = .ok (.aload_n 3, 1) := by decide +kernel
theorem dX11_vibration_15 : decode cX11_vibration 15 = .ok (.getfield 150, 3) := by decide +kernel
theorem dX11_vibration_18 : decode cX11_vibration 18 = .ok (.invokevirtual 160, 3) := by decide +kernel
theorem dX11_vibration_21 : decode cX11_vibration 21 = .ok (.ireturn, 1) := by decide +kernel
def f_X11_vibration (N : Nat) (R : Nat → Nat → Nat) (σ : SI) (x0 : Nat) (x1 : Int32) (x2 : Int32) : Option ((Int32 ⊕ Nat) × SI) := bdX (f_X11_blastAt N R σ x0 x1) (fun a2 σ2 => bdX (f_X11_neighbourAt N R σ2 x0 x2) (fun a4 σ4 => bd (f_X0_shakes N R σ4 a2 x2 (σ4 a2 8)) (fun a5 σ5 => some (.inl a5, σ5))))
set_option maxHeartbeats 4000000 in
set_option maxRecDepth 100000 in
theorem ok_X11_vibration {l : Launch} {g : GL} {R : Nat → Nat → Nat} {L : Nat → Nat → Int64} {N : Nat} {σ : SI} {x0 : Nat} {x1 : Int32} {x2 : Int32} {r : ((Int32 ⊕ Nat) × SI)} (h : f_X11_vibration N R σ x0 x1 x2 = some r) (hSh : ShR R) (hx0 : Ok 194 x0 11) : CtX l g 8 yX11_vibration cX11_vibration 4 (some .int) 194 194 2 12 [.ref (gb g + x0), .int x1, .int x2] (mkS σ R L) (PIX R L r) (PX R L r) := by
  refine vx_ofW (cc := cX11_vibration) (maxL := 4) (ret := (some .int)) (by decide) rfl ?_
  intro p e s m args below meth c s₁ B hml hT hv
  obtain ⟨rfl, hE, hLo, hWd⟩ := hv
  have hr : meth.sig.returnType = (some .int) := B.returns
  have C : Cx l g p s m meth c cX11_vibration 4 RX11 := ⟨B.exec, B.bytes, hml, findClass_of_methodNamed B.named, hE, hLo, B.notSynchronized⟩
  have S : S2 g s σ R L s.heap [] := ⟨hWd, va_S.rf⟩
  have hx := C.1
  have hb := C.2.1
  have hl := lv_entry ([.ref (gb g + x0), .int x1, .int x2]) (n := 4) (Nat.le_of_ble_eq_true rfl)
  rw [lg_entry_eq]
  generalize (lg_sl ([.ref (gb g + x0), .int x1, .int x2]) ++ List.replicate (4 - (lg_sl ([.ref (gb g + x0), .int x1, .int x2])).length) Slot.unset).toArray = ls at hl ⊢
  have hl : lv_has ls 4 [(0, .ref (gb g + x0)), (1, .int x1), (2, .int x2)] := hl
  generalize hH : s.heap = H at S ⊢
  generalize hlc : ([] : List Loc) = locs at S ⊢
  rw [f_X11_vibration] at h
  refine lv_aload_n hx hb dX11_vibration_0 rfl (lv_at hl 0 rfl) ?_
  refine lv_iload_n hx hb dX11_vibration_1 rfl (lv_at hl 1 rfl) ?_
  rcases bdX_el h with ⟨a2, σ2, hc2, h⟩ | ⟨q2, σ2, hc2, hr2⟩
  · refine x_callXR C S KX11 hx0 (ok_X11_blastAt (L := L) hc2 hSh hx0) ⟨cd_X11_blastAt, ni_RX11, ml_RX11_125, in_X11_blastAt, sl_X11_blastAt⟩ ⟨by decide, by decide⟩ rfl (rm_ok (by decide) (by decide)) hl.1 rfl (Nat.le_of_ble_eq_true rfl) ⟨by decide, by decide⟩ dX11_vibration_2 hT ⟨by decide, by decide⟩ (fun H locs ho2 S => ?_)
    refine lv_astore_n (lv' := [(3, .ref (gb g + a2)), (0, .ref (gb g + x0)), (1, .int x1), (2, .int x2)]) hx hb dX11_vibration_5 rfl hl (by decide) rfl (fun ls hl => ?_)
    refine lv_aload_n hx hb dX11_vibration_6 rfl (lv_at hl 1 rfl) ?_
    refine lv_iload_n hx hb dX11_vibration_7 rfl (lv_at hl 3 rfl) ?_
    rcases bdX_el h with ⟨a4, σ4, hc4, h⟩ | ⟨q4, σ4, hc4, hr4⟩
    · refine x_callXR C S KX11 hx0 (ok_X11_neighbourAt (L := L) hc4 hSh hx0) ⟨cd_X11_neighbourAt, ni_RX11, ml_RX11_156, in_X11_neighbourAt, sl_X11_neighbourAt⟩ ⟨by decide, by decide⟩ rfl (rm_ok (by decide) (by decide)) hl.1 rfl (Nat.le_of_ble_eq_true rfl) ⟨by decide, by decide⟩ dX11_vibration_8 hT ⟨by decide, by decide⟩ (fun H locs ho4 S => ?_)
      refine lv_pop hx hb dX11_vibration_11 rfl ?_
      refine lv_aload_n hx hb dX11_vibration_12 rfl (lv_at hl 0 rfl) ?_
      refine lv_iload_n hx hb dX11_vibration_13 rfl (lv_at hl 3 rfl) ?_
      refine lv_aload_n hx hb dX11_vibration_14 rfl (lv_at hl 0 rfl) ?_
      refine x_getI C S KX0 ho2 8 (by decide) rfl rfl fl_RX11_150 dX11_vibration_15 ?_
      obtain ⟨a5, σ5, hc5, h⟩ := bd_el h
      refine x_callVI C S KX0 ho2 (ok_X0_shakes (L := L) hc5 hSh ho2) ⟨cd_X0_shakes, ni_RX0, ml_RX11_160, in_X0_shakes, sl_X0_shakes⟩ ⟨by decide, by decide⟩ rfl (rm_ok (by decide) (by decide)) hl.1 rfl (Nat.le_of_ble_eq_true rfl) ⟨by decide, by decide⟩ dX11_vibration_18 (fun H locs S => ?_)
      exact x_iretX C S hr (by decide) (by decide) h dX11_vibration_21
    · exact x_callXX C S KX11 hx0 (ok_X11_neighbourAt (L := L) hc4 hSh hx0) n_PRX ⟨cd_X11_neighbourAt, ni_RX11, ml_RX11_156, in_X11_neighbourAt, sl_X11_neighbourAt⟩ ⟨by decide, by decide⟩ rfl (rm_ok (by decide) (by decide)) hl.1 rfl (Nat.le_of_ble_eq_true rfl) ⟨by decide, by decide⟩ dX11_vibration_8 hT ⟨by decide, by decide⟩ hr4
  · exact x_callXX C S KX11 hx0 (ok_X11_blastAt (L := L) hc2 hSh hx0) n_PRX ⟨cd_X11_blastAt, ni_RX11, ml_RX11_125, in_X11_blastAt, sl_X11_blastAt⟩ ⟨by decide, by decide⟩ rfl (rm_ok (by decide) (by decide)) hl.1 rfl (Nat.le_of_ble_eq_true rfl) ⟨by decide, by decide⟩ dX11_vibration_2 hT ⟨by decide, by decide⟩ hr2
