theorem dX11_truncate_0 : decode cX11_truncate 0 = .ok (.aload_n 0, 1) := by decide +kernel
theorem dX11_truncate_1 : decode cX11_truncate 1 = .ok (.getfield 10, 3) := by decide +kernel
theorem dX11_truncate_4 : decode cX11_truncate 4 = .ok (.getfield 68, 3) := by decide +kernel
theorem dX11_truncate_7 : decode cX11_truncate 7 = .ok (.astore_n 2, 1) := by decide +kernel
theorem dX11_truncate_8 : decode cX11_truncate 8 = .ok (.iload_n 1, 1) := by decide +kernel
theorem dX11_truncate_9 : decode cX11_truncate 9 = .ok (.ifCond .lt 11, 3) := by decide +kernel
theorem dX11_truncate_12 : decode cX11_truncate 12 = .ok (.iload_n 1, 1) := by decide +kernel
theorem dX11_truncate_13 : decode cX11_truncate 13 = .ok (.aload_n 2, 1) := by decide +kernel
theorem dX11_truncate_14 : decode cX11_truncate 14 = .ok (.getfield 82, 3) := by decide +kernel
theorem dX11_truncate_17 : decode cX11_truncate 17 = .ok (.if_icmp .le 5, 3) := by decide +kernel
theorem dX11_truncate_20 : decode cX11_truncate 20 = .ok (.iconst 0, 1) := by decide +kernel
theorem dX11_truncate_21 : decode cX11_truncate 21 = .ok (.ireturn, 1) := by decide +kernel
theorem dX11_truncate_22 : decode cX11_truncate 22 = .ok (.aload_n 2, 1) := by decide +kernel
theorem dX11_truncate_23 : decode cX11_truncate 23 = .ok (.iload_n 1, 1) := by decide +kernel
theorem dX11_truncate_24 : decode cX11_truncate 24 = .ok (.putfield 82, 3) := by decide +kernel
theorem dX11_truncate_27 : decode cX11_truncate 27 = .ok (.iconst 1, 1) := by decide +kernel
theorem dX11_truncate_28 : decode cX11_truncate 28 = .ok (.ireturn, 1) := by decide +kernel
def f_X11_truncate (N : Nat) (R : Nat → Nat → Nat) (σ : SI) (x0 : Nat) (x1 : Int32) : Option (Int32 × SI) := if x1 < 0 then (some ((0 : Int32), σ)) else (if x1 ≤ (σ (R (R x0 0) 0) 1) then (sq (up σ (R (R x0 0) 0) 1 x1) (fun σ5 => some ((1 : Int32), σ5))) else (some ((0 : Int32), σ)))
set_option maxHeartbeats 4000000 in
set_option maxRecDepth 100000 in
theorem ok_X11_truncate {l : Launch} {g : GL} {R : Nat → Nat → Nat} {L : Nat → Nat → Int64} {N : Nat} {σ : SI} {x0 : Nat} {x1 : Int32} {r : (Int32 × SI)} (h : f_X11_truncate N R σ x0 x1 = some r) (hSh : ShR R) (hx0 : Ok 202 x0 11) : Ct l g 1 yX11_truncate cX11_truncate 3 (some .boolean) 202 202 0 0 [.ref (ga g x0), .int x1] (mkS σ R L) (PI R L r) := by
  refine Met.ofW (cc := cX11_truncate) (maxL := 3) (ret := (some .boolean)) (by decide) rfl ?_
  intro p e s m args below meth c s₁ B hml hv
  obtain ⟨rfl, hE, hLo, hWd⟩ := hv
  have hr : meth.sig.returnType = (some .boolean) := B.returns
  have C : Cx l g p s m meth c cX11_truncate 3 RX11 := ⟨B.exec, B.bytes, hml, findClass_of_methodNamed B.named, hE, hLo, B.notSynchronized⟩
  have S : S2 g s σ R L s.heap [] := ⟨hWd, va_S.rf⟩
  have hx := C.1
  have hb := C.2.1
  have hl := lv_entry ([.ref (ga g x0), .int x1]) (n := 3) (Nat.le_of_ble_eq_true rfl)
  rw [lg_entry_eq]
  generalize (lg_sl ([.ref (ga g x0), .int x1]) ++ List.replicate (3 - (lg_sl ([.ref (ga g x0), .int x1])).length) Slot.unset).toArray = ls at hl ⊢
  have hl : lv_has ls 3 [(0, .ref (ga g x0)), (1, .int x1)] := hl
  generalize hH : s.heap = H at S ⊢
  generalize hlc : ([] : List Loc) = locs at S ⊢
  rw [f_X11_truncate] at h
  refine lv_aload_n hx hb dX11_truncate_0 rfl (lv_at hl 0 rfl) ?_
  have hR1 : Ok 202 (R x0 0) 5 := hSh x0 11 0 5 hx0.1 rfl
  refine x_getR C S KX11 hx0 0 (by decide) rfl rfl fl_RX11_10 hR1 dX11_truncate_1 ?_
  have hR2 : Ok 202 (R (R x0 0) 0) 10 := hSh (R x0 0) 5 0 10 hR1.1 rfl
  refine x_getR C S KX5 hR1 0 (by decide) rfl rfl fl_RX11_68 hR2 dX11_truncate_4 ?_
  refine lv_astore_n (lv' := [(2, .ref (ga g (R (R x0 0) 0))), (0, .ref (ga g x0)), (1, .int x1)]) hx hb dX11_truncate_7 rfl hl (by decide) rfl (fun ls hl => ?_)
  refine lv_iload_n hx hb dX11_truncate_8 rfl (lv_at hl 2 rfl) ?_
  refine lv_if_lt (tgt := 20) hx hb dX11_truncate_9 (by decide) (fun c3 => ?_) (fun c3 => ?_)
  · have h := it_p c3 h
    refine lv_iconst (v := (0 : Int32)) hx hb dX11_truncate_20 (by decide) ?_
    exact x_zret C S hr (by decide) h dX11_truncate_21
  · have h := it_n c3 h
    refine lv_iload_n hx hb dX11_truncate_12 rfl (lv_at hl 2 rfl) ?_
    refine lv_aload_n hx hb dX11_truncate_13 rfl (lv_at hl 0 rfl) ?_
    refine x_getI C S KX10 hR2 1 (by decide) rfl rfl fl_RX11_82 dX11_truncate_14 ?_
    refine lv_icmp_le (tgt := 22) hx hb dX11_truncate_17 (by decide) (fun c4 => ?_) (fun c4 => ?_)
    · have h := it_p c4 h
      refine lv_aload_n hx hb dX11_truncate_22 rfl (lv_at hl 0 rfl) ?_
      refine lv_iload_n hx hb dX11_truncate_23 rfl (lv_at hl 2 rfl) ?_
      obtain ⟨σ5, hs5, h⟩ := sq_el h
      refine x_putI C S KX10 hR2 1 (by decide) rfl rfl rfl ⟨rfl, rfl⟩ fl_RX11_82 dX11_truncate_24 hs5 (fun H locs S => ?_)
      refine lv_iconst (v := (1 : Int32)) hx hb dX11_truncate_27 (by decide) ?_
      exact x_zret C S hr (by decide) h dX11_truncate_28
    · have h := it_n c4 h
      refine lv_iconst (v := (0 : Int32)) hx hb dX11_truncate_20 (by decide) ?_
      exact x_zret C S hr (by decide) h dX11_truncate_21
theorem dX11_errorKind_0 : decode cX11_errorKind 0 = .ok (.aload_n 0, 1) := by decide +kernel
theorem dX11_errorKind_1 : decode cX11_errorKind 1 = .ok (.getfield 10, 3) := by decide +kernel
theorem dX11_errorKind_4 : decode cX11_errorKind 4 = .ok (.getfield 68, 3) := by decide +kernel
theorem dX11_errorKind_7 : decode cX11_errorKind 7 = .ok (.getfield 112, 3) := by decide +kernel
theorem dX11_errorKind_10 : decode cX11_errorKind 10 = .ok (.ireturn, 1) := by decide +kernel
def f_X11_errorKind (N : Nat) (R : Nat → Nat → Nat) (σ : SI) (x0 : Nat) : Option (Int32 × SI) := some (σ (R (R x0 0) 0) 4, σ)
set_option maxHeartbeats 4000000 in
set_option maxRecDepth 100000 in
theorem ok_X11_errorKind {l : Launch} {g : GL} {R : Nat → Nat → Nat} {L : Nat → Nat → Int64} {N : Nat} {σ : SI} {x0 : Nat} {r : (Int32 × SI)} (h : f_X11_errorKind N R σ x0 = some r) (hSh : ShR R) (hx0 : Ok 202 x0 11) : Ct l g 1 yX11_errorKind cX11_errorKind 1 (some .int) 202 202 0 0 [.ref (ga g x0)] (mkS σ R L) (PI R L r) := by
  refine Met.ofW (cc := cX11_errorKind) (maxL := 1) (ret := (some .int)) (by decide) rfl ?_
  intro p e s m args below meth c s₁ B hml hv
  obtain ⟨rfl, hE, hLo, hWd⟩ := hv
  have hr : meth.sig.returnType = (some .int) := B.returns
  have C : Cx l g p s m meth c cX11_errorKind 1 RX11 := ⟨B.exec, B.bytes, hml, findClass_of_methodNamed B.named, hE, hLo, B.notSynchronized⟩
  have S : S2 g s σ R L s.heap [] := ⟨hWd, va_S.rf⟩
  have hx := C.1
  have hb := C.2.1
  have hl := lv_entry ([.ref (ga g x0)]) (n := 1) (Nat.le_of_ble_eq_true rfl)
  rw [lg_entry_eq]
  generalize (lg_sl ([.ref (ga g x0)]) ++ List.replicate (1 - (lg_sl ([.ref (ga g x0)])).length) Slot.unset).toArray = ls at hl ⊢
  have hl : lv_has ls 1 [(0, .ref (ga g x0))] := hl
  generalize hH : s.heap = H at S ⊢
  generalize hlc : ([] : List Loc) = locs at S ⊢
  rw [f_X11_errorKind] at h
  refine lv_aload_n hx hb dX11_errorKind_0 rfl (lv_at hl 0 rfl) ?_
  have hR1 : Ok 202 (R x0 0) 5 := hSh x0 11 0 5 hx0.1 rfl
  refine x_getR C S KX11 hx0 0 (by decide) rfl rfl fl_RX11_10 hR1 dX11_errorKind_1 ?_
  have hR2 : Ok 202 (R (R x0 0) 0) 10 := hSh (R x0 0) 5 0 10 hR1.1 rfl
  refine x_getR C S KX5 hR1 0 (by decide) rfl rfl fl_RX11_68 hR2 dX11_errorKind_4 ?_
  refine x_getI C S KX10 hR2 4 (by decide) rfl rfl fl_RX11_112 dX11_errorKind_7 ?_
  exact x_iret C S hr h dX11_errorKind_10
theorem dX11_needBlast_0 : decode cX11_needBlast 0 = .ok (.iload_n 1, 1) := by decide +kernel
theorem dX11_needBlast_1 : decode cX11_needBlast 1 = .ok (.ifCond .lt 14, 3) := by decide +kernel
theorem dX11_needBlast_4 : decode cX11_needBlast 4 = .ok (.iload_n 1, 1) := by decide +kernel
theorem dX11_needBlast_5 : decode cX11_needBlast 5 = .ok (.aload_n 0, 1) := by decide +kernel
theorem dX11_needBlast_6 : decode cX11_needBlast 6 = .ok (.getfield 61, 3) := by decide +kernel
theorem dX11_needBlast_9 : decode cX11_needBlast 9 = .ok (.getfield 106, 3) := by decide +kernel
theorem dX11_needBlast_12 : decode cX11_needBlast 12 = .ok (.if_icmp .lt 14, 3) := by decide +kernel
theorem dX11_needBlast_15 : decode cX11_needBlast 15 = .ok (.new 356, 3) := by decide +kernel
theorem dX11_needBlast_18 : decode cX11_needBlast 18 = .ok (.dup, 1) := by decide +kernel
theorem dX11_needBlast_19 : decode cX11_needBlast 19 = .ok (.ldc_w 358, 3) := by decide +kernel
theorem dX11_needBlast_22 : decode cX11_needBlast 22 = .ok (.invokespecial 360, 3) := by decide +kernel
theorem dX11_needBlast_25 : decode cX11_needBlast 25 = .ok (.athrow, 1) := by decide +kernel
theorem dX11_needBlast_26 : decode cX11_needBlast 26 = .ok (.return_, 1) := by decide +kernel
def f_X11_needBlast_15 (N : Nat) (R : Nat → Nat → Nat) (σ : SI) : Option ((Unit ⊕ Nat) × SI) := some (.inr 0, σ)
def f_X11_needBlast (N : Nat) (R : Nat → Nat → Nat) (σ : SI) (x0 : Nat) (x1 : Int32) : Option ((Unit ⊕ Nat) × SI) := if x1 < 0 then (f_X11_needBlast_15 N R σ) else (if x1 < (σ (R x0 8) 11) then (some (.inl (), σ)) else (f_X11_needBlast_15 N R σ))
set_option maxHeartbeats 4000000 in
set_option maxRecDepth 100000 in
theorem w_X11_needBlast_15 {l : Launch} {g : GL} {p : Program} {e : Jvm.Env} {s : State} {m : MethodId} {args : Array Value} {below : List Frame} {meth : Method} {c : Code} {R : Nat → Nat → Nat} {L : Nat → Nat → Int64} {r : ((Unit ⊕ Nat) × SI)} {N : Nat} (C : Cx l g p s m meth c cX11_needBlast 2 RX11) (hr : meth.sig.returnType = none) (hT : ∀ x ∈ c.exceptionTable.toList, False) (hSh : ShR R) : ∀ (σ : SI), f_X11_needBlast_15 N R σ = some r → ∀ (H : Heap) (locs : List Loc) (ls : Array Slot), S2 g s σ R L H locs → lv_has ls 2 [] → W p l e (rmd 6 1 6) s m args below meth c H locs 0 0 (vx_MQ below (Qg g 202 (PVX R L r)) (Xg g 202 (PX R L r)) args s 1 6 (gA g)) (F0 m 15 ls []) := by
  have hx := C.1
  have hb := C.2.1
  intro σ h H locs ls S hl
  rw [f_X11_needBlast_15] at h
  exact x_throwW (q := 0) C S (by decide) cl_RX11_356 ni_ex0 (show (RX11, 358, "no such blast", 23) ∈ strTab by decide) at_RX11_360 hl.1 dX11_needBlast_15 dX11_needBlast_18 dX11_needBlast_19 dX11_needBlast_22 dX11_needBlast_25 hT (by decide) (Nat.le_of_ble_eq_true rfl) (by decide) (by decide) (by decide) (by decide) rfl h
set_option maxHeartbeats 4000000 in
set_option maxRecDepth 100000 in
theorem ok_X11_needBlast {l : Launch} {g : GL} {R : Nat → Nat → Nat} {L : Nat → Nat → Int64} {N : Nat} {σ : SI} {x0 : Nat} {x1 : Int32} {r : ((Unit ⊕ Nat) × SI)} (h : f_X11_needBlast N R σ x0 x1 = some r) (hSh : ShR R) (hx0 : Ok 202 x0 11) : CtX l g 6 yX11_needBlast cX11_needBlast 2 none 202 202 1 6 [.ref (ga g x0), .int x1] (mkS σ R L) (PVX R L r) (PX R L r) := by
  refine vx_ofW (cc := cX11_needBlast) (maxL := 2) (ret := none) (by decide) rfl ?_
  intro p e s m args below meth c s₁ B hml hT hv
  obtain ⟨rfl, hE, hLo, hWd⟩ := hv
  have hr : meth.sig.returnType = none := B.returns
  have C : Cx l g p s m meth c cX11_needBlast 2 RX11 := ⟨B.exec, B.bytes, hml, findClass_of_methodNamed B.named, hE, hLo, B.notSynchronized⟩
  have S : S2 g s σ R L s.heap [] := ⟨hWd, va_S.rf⟩
  have hx := C.1
  have hb := C.2.1
  have hl := lv_entry ([.ref (ga g x0), .int x1]) (n := 2) (Nat.le_of_ble_eq_true rfl)
  rw [lg_entry_eq]
  generalize (lg_sl ([.ref (ga g x0), .int x1]) ++ List.replicate (2 - (lg_sl ([.ref (ga g x0), .int x1])).length) Slot.unset).toArray = ls at hl ⊢
  have hl : lv_has ls 2 [(0, .ref (ga g x0)), (1, .int x1)] := hl
  generalize hH : s.heap = H at S ⊢
  generalize hlc : ([] : List Loc) = locs at S ⊢
  rw [f_X11_needBlast] at h
  refine lv_iload_n hx hb dX11_needBlast_0 rfl (lv_at hl 1 rfl) ?_
  refine lv_if_lt (tgt := 15) hx hb dX11_needBlast_1 (by decide) (fun c1 => ?_) (fun c1 => ?_)
  · have h := it_p c1 h
    exact w_X11_needBlast_15 C hr hT hSh σ h H locs ls S (lv_sub hl [] rfl)
  · have h := it_n c1 h
    refine lv_iload_n hx hb dX11_needBlast_4 rfl (lv_at hl 1 rfl) ?_
    refine lv_aload_n hx hb dX11_needBlast_5 rfl (lv_at hl 0 rfl) ?_
    have hR2 : Ok 202 (R x0 8) 9 := hSh x0 11 8 9 hx0.1 rfl
    refine x_getR C S KX11 hx0 8 (by decide) rfl rfl fl_RX11_61 hR2 dX11_needBlast_6 ?_
    refine x_getI C S KX9 hR2 11 (by decide) rfl rfl fl_RX11_106 dX11_needBlast_9 ?_
    refine lv_icmp_lt (tgt := 26) hx hb dX11_needBlast_12 (by decide) (fun c3 => ?_) (fun c3 => ?_)
    · have h := it_p c3 h
      exact x_vretX C S hr (by decide) (by decide) h dX11_needBlast_26
    · have h := it_n c3 h
      exact w_X11_needBlast_15 C hr hT hSh σ h H locs ls S (lv_sub hl [] rfl)
theorem dX11_blastAt_0 : decode cX11_blastAt 0 = .ok (.aload_n 0, 1) := by decide +kernel
theorem dX11_blastAt_1 : decode cX11_blastAt 1 = .ok (.iload_n 1, 1) := by decide +kernel
theorem dX11_blastAt_2 : decode cX11_blastAt 2 = .ok (.invokevirtual 225, 3) := by decide +kernel
theorem dX11_blastAt_5 : decode cX11_blastAt 5 = .ok (.aload_n 0, 1) := by decide +kernel
theorem dX11_blastAt_6 : decode cX11_blastAt 6 = .ok (.getfield 61, 3) := by decide +kernel
theorem dX11_blastAt_9 : decode cX11_blastAt 9 = .ok (.getfield 361, 3) := by decide +kernel
theorem dX11_blastAt_12 : decode cX11_blastAt 12 = .ok (.iload_n 1, 1) := by decide +kernel
theorem dX11_blastAt_13 : decode cX11_blastAt 13 = .ok (.aaload, 1) := by decide +kernel
theorem dX11_blastAt_14 : decode cX11_blastAt 14 = .ok (.areturn, 1) := by decide +kernel
def f_X11_blastAt (N : Nat) (R : Nat → Nat → Nat) (σ : SI) (x0 : Nat) (x1 : Int32) : Option ((Nat ⊕ Nat) × SI) := bdX (f_X11_needBlast N R σ x0 x1) (fun _ σ2 => ck x1 6 (some (.inl (R (R (R x0 8) 2) x1.toNatClampNeg), σ2)))
set_option maxHeartbeats 4000000 in
set_option maxRecDepth 100000 in
theorem ok_X11_blastAt {l : Launch} {g : GL} {R : Nat → Nat → Nat} {L : Nat → Nat → Int64} {N : Nat} {σ : SI} {x0 : Nat} {x1 : Int32} {r : ((Nat ⊕ Nat) × SI)} (h : f_X11_blastAt N R σ x0 x1 = some r) (hSh : ShR R) (hx0 : Ok 202 x0 11) : CtX l g 7 yX11_blastAt cX11_blastAt 2 (some (.object "BlastPlanner$Blast")) 202 202 1 6 [.ref (ga g x0), .int x1] (mkS σ R L) (PRX g 0 R L r) (PX R L r) := by
  refine vx_ofW (cc := cX11_blastAt) (maxL := 2) (ret := (some (.object "BlastPlanner$Blast"))) (by decide) rfl ?_
  intro p e s m args below meth c s₁ B hml hT hv
  obtain ⟨rfl, hE, hLo, hWd⟩ := hv
  have hr : meth.sig.returnType = (some (.object "BlastPlanner$Blast")) := B.returns
  have C : Cx l g p s m meth c cX11_blastAt 2 RX11 := ⟨B.exec, B.bytes, hml, findClass_of_methodNamed B.named, hE, hLo, B.notSynchronized⟩
  have S : S2 g s σ R L s.heap [] := ⟨hWd, va_S.rf⟩
  have hx := C.1
  have hb := C.2.1
  have hl := lv_entry ([.ref (ga g x0), .int x1]) (n := 2) (Nat.le_of_ble_eq_true rfl)
  rw [lg_entry_eq]
  generalize (lg_sl ([.ref (ga g x0), .int x1]) ++ List.replicate (2 - (lg_sl ([.ref (ga g x0), .int x1])).length) Slot.unset).toArray = ls at hl ⊢
  have hl : lv_has ls 2 [(0, .ref (ga g x0)), (1, .int x1)] := hl
  generalize hH : s.heap = H at S ⊢
  generalize hlc : ([] : List Loc) = locs at S ⊢
  rw [f_X11_blastAt] at h
  refine lv_aload_n hx hb dX11_blastAt_0 rfl (lv_at hl 0 rfl) ?_
  refine lv_iload_n hx hb dX11_blastAt_1 rfl (lv_at hl 1 rfl) ?_
  rcases bdX_el h with ⟨a2, σ2, hc2, h⟩ | ⟨q2, σ2, hc2, hr2⟩
  · refine x_callXV C S KX11 hx0 (ok_X11_needBlast (L := L) hc2 hSh hx0) ⟨cd_X11_needBlast, ni_RX11, ml_RX11_225, in_X11_needBlast, sl_X11_needBlast⟩ ⟨by decide, by decide⟩ rfl (rm_ok (by decide) (by decide)) hl.1 rfl (Nat.le_of_ble_eq_true rfl) ⟨by decide, by decide⟩ dX11_blastAt_2 hT ⟨by decide, by decide⟩ (fun H locs S => ?_)
    refine lv_aload_n hx hb dX11_blastAt_5 rfl (lv_at hl 0 rfl) ?_
    have hR3 : Ok 202 (R x0 8) 9 := hSh x0 11 8 9 hx0.1 rfl
    refine x_getR C S KX11 hx0 8 (by decide) rfl rfl fl_RX11_61 hR3 dX11_blastAt_6 ?_
    have hR4 : Ok 202 (R (R x0 8) 2) 50006 := hSh (R x0 8) 9 2 50006 hR3.1 rfl
    refine x_getR C S KX9 hR3 2 (by decide) rfl rfl fl_RX11_361 hR4 dX11_blastAt_9 ?_
    refine lv_iload_n hx hb dX11_blastAt_12 rfl (lv_at hl 1 rfl) ?_
    obtain ⟨hi5, h⟩ := ck_el h
    have hR6 : Ok 202 (R (R (R x0 8) 2) x1.toNatClampNeg) 0 := hSh (R (R x0 8) 2) 50006 x1.toNatClampNeg 0 hR4.1 (if_pos (vp_lt hi5))
    refine x_aald (len := 6) C S (by decide) 4 (by decide) rfl hR4 hi5 hR6 dX11_blastAt_13 ?_
    exact x_aretX C S hr (by decide) (by decide) hR6 h dX11_blastAt_14
  · exact x_callXX C S KX11 hx0 (ok_X11_needBlast (L := L) hc2 hSh hx0) n_PVX ⟨cd_X11_needBlast, ni_RX11, ml_RX11_225, in_X11_needBlast, sl_X11_needBlast⟩ ⟨by decide, by decide⟩ rfl (rm_ok (by decide) (by decide)) hl.1 rfl (Nat.le_of_ble_eq_true rfl) ⟨by decide, by decide⟩ dX11_blastAt_2 hT ⟨by decide, by decide⟩ hr2
theorem dX11_neighbourAt_0 : decode cX11_neighbourAt 0 = .ok (.iload_n 1, 1) := by decide +kernel
theorem dX11_neighbourAt_1 : decode cX11_neighbourAt 1 = .ok (.ifCond .lt 14, 3) := by decide +kernel
theorem dX11_neighbourAt_4 : decode cX11_neighbourAt 4 = .ok (.iload_n 1, 1) := by decide +kernel
theorem dX11_neighbourAt_5 : decode cX11_neighbourAt 5 = .ok (.aload_n 0, 1) := by decide +kernel
theorem dX11_neighbourAt_6 : decode cX11_neighbourAt 6 = .ok (.getfield 61, 3) := by decide +kernel
theorem dX11_neighbourAt_9 : decode cX11_neighbourAt 9 = .ok (.getfield 115, 3) := by decide +kernel
theorem dX11_neighbourAt_12 : decode cX11_neighbourAt 12 = .ok (.if_icmp .lt 14, 3) := by decide +kernel
theorem dX11_neighbourAt_15 : decode cX11_neighbourAt 15 = .ok (.new 356, 3) := by decide +kernel
theorem dX11_neighbourAt_18 : decode cX11_neighbourAt 18 = .ok (.dup, 1) := by decide +kernel
theorem dX11_neighbourAt_19 : decode cX11_neighbourAt 19 = .ok (.ldc_w 365, 3) := by decide +kernel
theorem dX11_neighbourAt_22 : decode cX11_neighbourAt 22 = .ok (.invokespecial 360, 3) := by decide +kernel
theorem dX11_neighbourAt_25 : decode cX11_neighbourAt 25 = .ok (.athrow, 1) := by decide +kernel
theorem dX11_neighbourAt_26 : decode cX11_neighbourAt 26 = .ok (.aload_n 0, 1) := by decide +kernel
theorem dX11_neighbourAt_27 : decode cX11_neighbourAt 27 = .ok (.getfield 61, 3) := by decide +kernel
theorem dX11_neighbourAt_30 : decode cX11_neighbourAt 30 = .ok (.getfield 367, 3) := by decide +kernel
theorem dX11_neighbourAt_33 : decode cX11_neighbourAt 33 = .ok (.iload_n 1, 1) := by decide +kernel
theorem dX11_neighbourAt_34 : decode cX11_neighbourAt 34 = .ok (.aaload, 1) := by decide +kernel
theorem dX11_neighbourAt_35 : decode cX11_neighbourAt 35 = .ok (.areturn, 1) := by decide +kernel
def f_X11_neighbourAt_15 (N : Nat) (R : Nat → Nat → Nat) (σ : SI) : Option ((Nat ⊕ Nat) × SI) := some (.inr 0, σ)
def f_X11_neighbourAt (N : Nat) (R : Nat → Nat → Nat) (σ : SI) (x0 : Nat) (x1 : Int32) : Option ((Nat ⊕ Nat) × SI) := if x1 < 0 then (f_X11_neighbourAt_15 N R σ) else (if x1 < (σ (R x0 8) 9) then (ck x1 8 (some (.inl (R (R (R x0 8) 0) x1.toNatClampNeg), σ))) else (f_X11_neighbourAt_15 N R σ))
set_option maxHeartbeats 4000000 in
set_option maxRecDepth 100000 in
theorem w_X11_neighbourAt_15 {l : Launch} {g : GL} {p : Program} {e : Jvm.Env} {s : State} {m : MethodId} {args : Array Value} {below : List Frame} {meth : Method} {c : Code} {R : Nat → Nat → Nat} {L : Nat → Nat → Int64} {r : ((Nat ⊕ Nat) × SI)} {N : Nat} (C : Cx l g p s m meth c cX11_neighbourAt 2 RX11) (hr : meth.sig.returnType = (some (.object "BlastPlanner$Neighbour"))) (hT : ∀ x ∈ c.exceptionTable.toList, False) (hSh : ShR R) : ∀ (σ : SI), f_X11_neighbourAt_15 N R σ = some r → ∀ (H : Heap) (locs : List Loc) (ls : Array Slot), S2 g s σ R L H locs → lv_has ls 2 [] → W p l e (rmd 6 1 6) s m args below meth c H locs 0 0 (vx_MQ below (Qg g 202 (PRX g 4 R L r)) (Xg g 202 (PX R L r)) args s 1 6 (gA g)) (F0 m 15 ls []) := by
  have hx := C.1
  have hb := C.2.1
  intro σ h H locs ls S hl
  rw [f_X11_neighbourAt_15] at h
  exact x_throwW (q := 0) C S (by decide) cl_RX11_356 ni_ex0 (show (RX11, 365, "no such neighbour", 24) ∈ strTab by decide) at_RX11_360 hl.1 dX11_neighbourAt_15 dX11_neighbourAt_18 dX11_neighbourAt_19 dX11_neighbourAt_22 dX11_neighbourAt_25 hT (by decide) (Nat.le_of_ble_eq_true rfl) (by decide) (by decide) (by decide) (by decide) rfl h
set_option maxHeartbeats 4000000 in
set_option maxRecDepth 100000 in
theorem ok_X11_neighbourAt {l : Launch} {g : GL} {R : Nat → Nat → Nat} {L : Nat → Nat → Int64} {N : Nat} {σ : SI} {x0 : Nat} {x1 : Int32} {r : ((Nat ⊕ Nat) × SI)} (h : f_X11_neighbourAt N R σ x0 x1 = some r) (hSh : ShR R) (hx0 : Ok 202 x0 11) : CtX l g 6 yX11_neighbourAt cX11_neighbourAt 2 (some (.object "BlastPlanner$Neighbour")) 202 202 1 6 [.ref (ga g x0), .int x1] (mkS σ R L) (PRX g 4 R L r) (PX R L r) := by
  refine vx_ofW (cc := cX11_neighbourAt) (maxL := 2) (ret := (some (.object "BlastPlanner$Neighbour"))) (by decide) rfl ?_
  intro p e s m args below meth c s₁ B hml hT hv
  obtain ⟨rfl, hE, hLo, hWd⟩ := hv
  have hr : meth.sig.returnType = (some (.object "BlastPlanner$Neighbour")) := B.returns
  have C : Cx l g p s m meth c cX11_neighbourAt 2 RX11 := ⟨B.exec, B.bytes, hml, findClass_of_methodNamed B.named, hE, hLo, B.notSynchronized⟩
  have S : S2 g s σ R L s.heap [] := ⟨hWd, va_S.rf⟩
  have hx := C.1
  have hb := C.2.1
  have hl := lv_entry ([.ref (ga g x0), .int x1]) (n := 2) (Nat.le_of_ble_eq_true rfl)
  rw [lg_entry_eq]
  generalize (lg_sl ([.ref (ga g x0), .int x1]) ++ List.replicate (2 - (lg_sl ([.ref (ga g x0), .int x1])).length) Slot.unset).toArray = ls at hl ⊢
  have hl : lv_has ls 2 [(0, .ref (ga g x0)), (1, .int x1)] := hl
  generalize hH : s.heap = H at S ⊢
  generalize hlc : ([] : List Loc) = locs at S ⊢
  rw [f_X11_neighbourAt] at h
  refine lv_iload_n hx hb dX11_neighbourAt_0 rfl (lv_at hl 1 rfl) ?_
  refine lv_if_lt (tgt := 15) hx hb dX11_neighbourAt_1 (by decide) (fun c1 => ?_) (fun c1 => ?_)
  · have h := it_p c1 h
    exact w_X11_neighbourAt_15 C hr hT hSh σ h H locs ls S (lv_sub hl [] rfl)
  · have h := it_n c1 h
    refine lv_iload_n hx hb dX11_neighbourAt_4 rfl (lv_at hl 1 rfl) ?_
    refine lv_aload_n hx hb dX11_neighbourAt_5 rfl (lv_at hl 0 rfl) ?_
    have hR2 : Ok 202 (R x0 8) 9 := hSh x0 11 8 9 hx0.1 rfl
    refine x_getR C S KX11 hx0 8 (by decide) rfl rfl fl_RX11_61 hR2 dX11_neighbourAt_6 ?_
    refine x_getI C S KX9 hR2 9 (by decide) rfl rfl fl_RX11_115 dX11_neighbourAt_9 ?_
    refine lv_icmp_lt (tgt := 26) hx hb dX11_neighbourAt_12 (by decide) (fun c3 => ?_) (fun c3 => ?_)
    · have h := it_p c3 h
      refine lv_aload_n hx hb dX11_neighbourAt_26 rfl (lv_at hl 0 rfl) ?_
      have hR4 : Ok 202 (R x0 8) 9 := hSh x0 11 8 9 hx0.1 rfl
      refine x_getR C S KX11 hx0 8 (by decide) rfl rfl fl_RX11_61 hR4 dX11_neighbourAt_27 ?_
      have hR5 : Ok 202 (R (R x0 8) 0) 60008 := hSh (R x0 8) 9 0 60008 hR4.1 rfl
      refine x_getR C S KX9 hR4 0 (by decide) rfl rfl fl_RX11_367 hR5 dX11_neighbourAt_30 ?_
      refine lv_iload_n hx hb dX11_neighbourAt_33 rfl (lv_at hl 1 rfl) ?_
      obtain ⟨hi6, h⟩ := ck_el h
      have hR7 : Ok 202 (R (R (R x0 8) 0) x1.toNatClampNeg) 4 := hSh (R (R x0 8) 0) 60008 x1.toNatClampNeg 4 hR5.1 (if_pos (vp_lt hi6))
      refine x_aald (len := 8) C S (by decide) 5 (by decide) rfl hR5 hi6 hR7 dX11_neighbourAt_34 ?_
      exact x_aretX C S hr (by decide) (by decide) hR7 h dX11_neighbourAt_35
    · have h := it_n c3 h
      exact w_X11_neighbourAt_15 C hr hT hSh σ h H locs ls S (lv_sub hl [] rfl)
theorem dX11_roadAt_0 : decode cX11_roadAt 0 = .ok (.iload_n 1, 1) := by decide +kernel
theorem dX11_roadAt_1 : decode cX11_roadAt 1 = .ok (.ifCond .lt 14, 3) := by decide +kernel
theorem dX11_roadAt_4 : decode cX11_roadAt 4 = .ok (.iload_n 1, 1) := by decide +kernel
theorem dX11_roadAt_5 : decode cX11_roadAt 5 = .ok (.aload_n 0, 1) := by decide +kernel
theorem dX11_roadAt_6 : decode cX11_roadAt 6 = .ok (.getfield 61, 3) := by decide +kernel
theorem dX11_roadAt_9 : decode cX11_roadAt 9 = .ok (.getfield 118, 3) := by decide +kernel
theorem dX11_roadAt_12 : decode cX11_roadAt 12 = .ok (.if_icmp .lt 14, 3) := by decide +kernel
theorem dX11_roadAt_15 : decode cX11_roadAt 15 = .ok (.new 356, 3) := by decide +kernel
theorem dX11_roadAt_18 : decode cX11_roadAt 18 = .ok (.dup, 1) := by decide +kernel
theorem dX11_roadAt_19 : decode cX11_roadAt 19 = .ok (.ldc_w 371, 3) := by decide +kernel
theorem dX11_roadAt_22 : decode cX11_roadAt 22 = .ok (.invokespecial 360, 3) := by decide +kernel
theorem dX11_roadAt_25 : decode cX11_roadAt 25 = .ok (.athrow, 1) := by decide +kernel
theorem dX11_roadAt_26 : decode cX11_roadAt 26 = .ok (.aload_n 0, 1) := by decide +kernel
theorem dX11_roadAt_27 : decode cX11_roadAt 27 = .ok (.getfield 61, 3) := by decide +kernel
theorem dX11_roadAt_30 : decode cX11_roadAt 30 = .ok (.getfield 373, 3) := by decide +kernel
theorem dX11_roadAt_33 : decode cX11_roadAt 33 = .ok (.iload_n 1, 1) := by decide +kernel
theorem dX11_roadAt_34 : decode cX11_roadAt 34 = .ok (.aaload, 1) := by decide +kernel
theorem dX11_roadAt_35 : decode cX11_roadAt 35 = .ok (.areturn, 1) := by decide +kernel
def f_X11_roadAt_15 (N : Nat) (R : Nat → Nat → Nat) (σ : SI) : Option ((Nat ⊕ Nat) × SI) := some (.inr 0, σ)
def f_X11_roadAt (N : Nat) (R : Nat → Nat → Nat) (σ : SI) (x0 : Nat) (x1 : Int32) : Option ((Nat ⊕ Nat) × SI) := if x1 < 0 then (f_X11_roadAt_15 N R σ) else (if x1 < (σ (R x0 8) 10) then (ck x1 6 (some (.inl (R (R (R x0 8) 1) x1.toNatClampNeg), σ))) else (f_X11_roadAt_15 N R σ))
set_option maxHeartbeats 4000000 in
set_option maxRecDepth 100000 in
theorem w_X11_roadAt_15 {l : Launch} {g : GL} {p : Program} {e : Jvm.Env} {s : State} {m : MethodId} {args : Array Value} {below : List Frame} {meth : Method} {c : Code} {R : Nat → Nat → Nat} {L : Nat → Nat → Int64} {r : ((Nat ⊕ Nat) × SI)} {N : Nat} (C : Cx l g p s m meth c cX11_roadAt 2 RX11) (hr : meth.sig.returnType = (some (.object "BlastPlanner$Road"))) (hT : ∀ x ∈ c.exceptionTable.toList, False) (hSh : ShR R) : ∀ (σ : SI), f_X11_roadAt_15 N R σ = some r → ∀ (H : Heap) (locs : List Loc) (ls : Array Slot), S2 g s σ R L H locs → lv_has ls 2 [] → W p l e (rmd 6 1 6) s m args below meth c H locs 0 0 (vx_MQ below (Qg g 202 (PRX g 7 R L r)) (Xg g 202 (PX R L r)) args s 1 6 (gA g)) (F0 m 15 ls []) := by
  have hx := C.1
  have hb := C.2.1
  intro σ h H locs ls S hl
  rw [f_X11_roadAt_15] at h
  exact x_throwW (q := 0) C S (by decide) cl_RX11_356 ni_ex0 (show (RX11, 371, "no such road", 25) ∈ strTab by decide) at_RX11_360 hl.1 dX11_roadAt_15 dX11_roadAt_18 dX11_roadAt_19 dX11_roadAt_22 dX11_roadAt_25 hT (by decide) (Nat.le_of_ble_eq_true rfl) (by decide) (by decide) (by decide) (by decide) rfl h
set_option maxHeartbeats 4000000 in
set_option maxRecDepth 100000 in
theorem ok_X11_roadAt {l : Launch} {g : GL} {R : Nat → Nat → Nat} {L : Nat → Nat → Int64} {N : Nat} {σ : SI} {x0 : Nat} {x1 : Int32} {r : ((Nat ⊕ Nat) × SI)} (h : f_X11_roadAt N R σ x0 x1 = some r) (hSh : ShR R) (hx0 : Ok 202 x0 11) : CtX l g 6 yX11_roadAt cX11_roadAt 2 (some (.object "BlastPlanner$Road")) 202 202 1 6 [.ref (ga g x0), .int x1] (mkS σ R L) (PRX g 7 R L r) (PX R L r) := by
  refine vx_ofW (cc := cX11_roadAt) (maxL := 2) (ret := (some (.object "BlastPlanner$Road"))) (by decide) rfl ?_
  intro p e s m args below meth c s₁ B hml hT hv
  obtain ⟨rfl, hE, hLo, hWd⟩ := hv
  have hr : meth.sig.returnType = (some (.object "BlastPlanner$Road")) := B.returns
  have C : Cx l g p s m meth c cX11_roadAt 2 RX11 := ⟨B.exec, B.bytes, hml, findClass_of_methodNamed B.named, hE, hLo, B.notSynchronized⟩
  have S : S2 g s σ R L s.heap [] := ⟨hWd, va_S.rf⟩
  have hx := C.1
  have hb := C.2.1
  have hl := lv_entry ([.ref (ga g x0), .int x1]) (n := 2) (Nat.le_of_ble_eq_true rfl)
  rw [lg_entry_eq]
  generalize (lg_sl ([.ref (ga g x0), .int x1]) ++ List.replicate (2 - (lg_sl ([.ref (ga g x0), .int x1])).length) Slot.unset).toArray = ls at hl ⊢
  have hl : lv_has ls 2 [(0, .ref (ga g x0)), (1, .int x1)] := hl
  generalize hH : s.heap = H at S ⊢
  generalize hlc : ([] : List Loc) = locs at S ⊢
  rw [f_X11_roadAt] at h
  refine lv_iload_n hx hb dX11_roadAt_0 rfl (lv_at hl 1 rfl) ?_
  refine lv_if_lt (tgt := 15) hx hb dX11_roadAt_1 (by decide) (fun c1 => ?_) (fun c1 => ?_)
  · have h := it_p c1 h
    exact w_X11_roadAt_15 C hr hT hSh σ h H locs ls S (lv_sub hl [] rfl)
  · have h := it_n c1 h
    refine lv_iload_n hx hb dX11_roadAt_4 rfl (lv_at hl 1 rfl) ?_
    refine lv_aload_n hx hb dX11_roadAt_5 rfl (lv_at hl 0 rfl) ?_
    have hR2 : Ok 202 (R x0 8) 9 := hSh x0 11 8 9 hx0.1 rfl
    refine x_getR C S KX11 hx0 8 (by decide) rfl rfl fl_RX11_61 hR2 dX11_roadAt_6 ?_
    refine x_getI C S KX9 hR2 10 (by decide) rfl rfl fl_RX11_118 dX11_roadAt_9 ?_
    refine lv_icmp_lt (tgt := 26) hx hb dX11_roadAt_12 (by decide) (fun c3 => ?_) (fun c3 => ?_)
    · have h := it_p c3 h
      refine lv_aload_n hx hb dX11_roadAt_26 rfl (lv_at hl 0 rfl) ?_
      have hR4 : Ok 202 (R x0 8) 9 := hSh x0 11 8 9 hx0.1 rfl
      refine x_getR C S KX11 hx0 8 (by decide) rfl rfl fl_RX11_61 hR4 dX11_roadAt_27 ?_
      have hR5 : Ok 202 (R (R x0 8) 1) 70006 := hSh (R x0 8) 9 1 70006 hR4.1 rfl
      refine x_getR C S KX9 hR4 1 (by decide) rfl rfl fl_RX11_373 hR5 dX11_roadAt_30 ?_
      refine lv_iload_n hx hb dX11_roadAt_33 rfl (lv_at hl 1 rfl) ?_
      obtain ⟨hi6, h⟩ := ck_el h
      have hR7 : Ok 202 (R (R (R x0 8) 1) x1.toNatClampNeg) 7 := hSh (R (R x0 8) 1) 70006 x1.toNatClampNeg 7 hR5.1 (if_pos (vp_lt hi6))
      refine x_aald (len := 6) C S (by decide) 6 (by decide) rfl hR5 hi6 hR7 dX11_roadAt_34 ?_
      exact x_aretX C S hr (by decide) (by decide) hR7 h dX11_roadAt_35
    · have h := it_n c3 h
      exact w_X11_roadAt_15 C hr hT hSh σ h H locs ls S (lv_sub hl [] rfl)
theorem dX11_needRange_0 : decode cX11_needRange 0 = .ok (.iload_n 1, 1) := by decide +kernel
theorem dX11_needRange_1 : decode cX11_needRange 1 = .ok (.iload_n 2, 1) := by decide +kernel
theorem dX11_needRange_2 : decode cX11_needRange 2 = .ok (.if_icmp .lt 8, 3) := by decide +kernel
theorem dX11_needRange_5 : decode cX11_needRange 5 = .ok (.iload_n 1, 1) := by decide +kernel
theorem dX11_needRange_6 : decode cX11_needRange 6 = .ok (.iload_n 3, 1) := by decide +kernel
theorem dX11_needRange_7 : decode cX11_needRange 7 = .ok (.if_icmp .le 14, 3) := by decide +kernel
theorem dX11_needRange_10 : decode cX11_needRange 10 = .ok (.new 90, 3) := by decide +kernel
theorem dX11_needRange_13 : decode cX11_needRange 13 = .ok (.dup, 1) := by decide +kernel
theorem dX11_needRange_14 : decode cX11_needRange 14 = .ok (.ldc_w 379, 3) := by decide +kernel
theorem dX11_needRange_17 : decode cX11_needRange 17 = .ok (.invokespecial 94, 3) := by decide +kernel
theorem dX11_needRange_20 : decode cX11_needRange 20 = .ok (.athrow, 1) := by decide +kernel
theorem dX11_needRange_21 : decode cX11_needRange 21 = .ok (.return_, 1) := by decide +kernel
def f_X11_needRange_10 (N : Nat) (R : Nat → Nat → Nat) (σ : SI) : Option ((Unit ⊕ Nat) × SI) := some (.inr 1, σ)
def f_X11_needRange (N : Nat) (R : Nat → Nat → Nat) (σ : SI) (x0 : Nat) (x1 : Int32) (x2 : Int32) (x3 : Int32) : Option ((Unit ⊕ Nat) × SI) := if x1 < x2 then (f_X11_needRange_10 N R σ) else (if x1 ≤ x3 then (some (.inl (), σ)) else (f_X11_needRange_10 N R σ))
set_option maxHeartbeats 4000000 in
set_option maxRecDepth 100000 in
theorem w_X11_needRange_10 {l : Launch} {g : GL} {p : Program} {e : Jvm.Env} {s : State} {m : MethodId} {args : Array Value} {below : List Frame} {meth : Method} {c : Code} {R : Nat → Nat → Nat} {L : Nat → Nat → Int64} {r : ((Unit ⊕ Nat) × SI)} {N : Nat} (C : Cx l g p s m meth c cX11_needRange 4 RX11) (hr : meth.sig.returnType = none) (hT : ∀ x ∈ c.exceptionTable.toList, False) (hSh : ShR R) : ∀ (σ : SI), f_X11_needRange_10 N R σ = some r → ∀ (H : Heap) (locs : List Loc) (ls : Array Slot), S2 g s σ R L H locs → lv_has ls 4 [] → W p l e (rmd 6 1 6) s m args below meth c H locs 0 0 (vx_MQ below (Qg g 202 (PVX R L r)) (Xg g 202 (PX R L r)) args s 1 6 (gA g)) (F0 m 10 ls []) := by
  have hx := C.1
  have hb := C.2.1
  intro σ h H locs ls S hl
  rw [f_X11_needRange_10] at h
  exact x_throwW (q := 1) C S (by decide) cl_RX11_90 ni_ex1 (show (RX11, 379, "out of range", 26) ∈ strTab by decide) at_RX11_94 hl.1 dX11_needRange_10 dX11_needRange_13 dX11_needRange_14 dX11_needRange_17 dX11_needRange_20 hT (by decide) (Nat.le_of_ble_eq_true rfl) (by decide) (by decide) (by decide) (by decide) rfl h
set_option maxHeartbeats 4000000 in
set_option maxRecDepth 100000 in
theorem ok_X11_needRange {l : Launch} {g : GL} {R : Nat → Nat → Nat} {L : Nat → Nat → Int64} {N : Nat} {σ : SI} {x0 : Nat} {x1 : Int32} {x2 : Int32} {x3 : Int32} {r : ((Unit ⊕ Nat) × SI)} (h : f_X11_needRange N R σ x0 x1 x2 x3 = some r) (hSh : ShR R) (hx0 : Ok 202 x0 11) : CtX l g 6 yX11_needRange cX11_needRange 4 none 202 202 1 6 [.ref (ga g x0), .int x1, .int x2, .int x3] (mkS σ R L) (PVX R L r) (PX R L r) := by
  refine vx_ofW (cc := cX11_needRange) (maxL := 4) (ret := none) (by decide) rfl ?_
  intro p e s m args below meth c s₁ B hml hT hv
  obtain ⟨rfl, hE, hLo, hWd⟩ := hv
  have hr : meth.sig.returnType = none := B.returns
  have C : Cx l g p s m meth c cX11_needRange 4 RX11 := ⟨B.exec, B.bytes, hml, findClass_of_methodNamed B.named, hE, hLo, B.notSynchronized⟩
  have S : S2 g s σ R L s.heap [] := ⟨hWd, va_S.rf⟩
  have hx := C.1
  have hb := C.2.1
  have hl := lv_entry ([.ref (ga g x0), .int x1, .int x2, .int x3]) (n := 4) (Nat.le_of_ble_eq_true rfl)
  rw [lg_entry_eq]
  generalize (lg_sl ([.ref (ga g x0), .int x1, .int x2, .int x3]) ++ List.replicate (4 - (lg_sl ([.ref (ga g x0), .int x1, .int x2, .int x3])).length) Slot.unset).toArray = ls at hl ⊢
  have hl : lv_has ls 4 [(0, .ref (ga g x0)), (1, .int x1), (2, .int x2), (3, .int x3)] := hl
  generalize hH : s.heap = H at S ⊢
  generalize hlc : ([] : List Loc) = locs at S ⊢
  rw [f_X11_needRange] at h
  refine lv_iload_n hx hb dX11_needRange_0 rfl (lv_at hl 1 rfl) ?_
  refine lv_iload_n hx hb dX11_needRange_1 rfl (lv_at hl 2 rfl) ?_
  refine lv_icmp_lt (tgt := 10) hx hb dX11_needRange_2 (by decide) (fun c1 => ?_) (fun c1 => ?_)
  · have h := it_p c1 h
    exact w_X11_needRange_10 C hr hT hSh σ h H locs ls S (lv_sub hl [] rfl)
  · have h := it_n c1 h
    refine lv_iload_n hx hb dX11_needRange_5 rfl (lv_at hl 1 rfl) ?_
    refine lv_iload_n hx hb dX11_needRange_6 rfl (lv_at hl 3 rfl) ?_
    refine lv_icmp_le (tgt := 21) hx hb dX11_needRange_7 (by decide) (fun c2 => ?_) (fun c2 => ?_)
    · have h := it_p c2 h
      exact x_vretX C S hr (by decide) (by decide) h dX11_needRange_21
    · have h := it_n c2 h
      exact w_X11_needRange_10 C hr hT hSh σ h H locs ls S (lv_sub hl [] rfl)
theorem dX11_squareSum_0 : decode cX11_squareSum 0 = .ok (.iload_n 0, 1) := by decide +kernel
theorem dX11_squareSum_1 : decode cX11_squareSum 1 = .ok (.iload_n 0, 1) := by decide +kernel
theorem dX11_squareSum_2 : decode cX11_squareSum 2 = .ok (.imul, 1) := by decide +kernel
theorem dX11_squareSum_3 : decode cX11_squareSum 3 = .ok (.iload_n 1, 1) := by decide +kernel
theorem dX11_squareSum_4 : decode cX11_squareSum 4 = .ok (.iload_n 1, 1) := by decide +kernel
theorem dX11_squareSum_5 : decode cX11_squareSum 5 = .ok (.imul, 1) := by decide +kernel
theorem dX11_squareSum_6 : decode cX11_squareSum 6 = .ok (.iadd, 1) := by decide +kernel
theorem dX11_squareSum_7 : decode cX11_squareSum 7 = .ok (.ireturn, 1) := by decide +kernel
def f_X11_squareSum (N : Nat) (R : Nat → Nat → Nat) (σ : SI) (x0 : Int32) (x1 : Int32) : Option (Int32 × SI) := some ((x0 * x0) + (x1 * x1), σ)
set_option maxHeartbeats 4000000 in
set_option maxRecDepth 100000 in
theorem ok_X11_squareSum {l : Launch} {g : GL} {R : Nat → Nat → Nat} {L : Nat → Nat → Int64} {N : Nat} {σ : SI} {x0 : Int32} {x1 : Int32} {r : (Int32 × SI)} (h : f_X11_squareSum N R σ x0 x1 = some r) (hSh : ShR R) : Ct l g 1 yX11_squareSum cX11_squareSum 2 (some .int) 202 202 0 0 [.int x0, .int x1] (mkS σ R L) (PI R L r) := by
  refine Met.ofW (cc := cX11_squareSum) (maxL := 2) (ret := (some .int)) (by decide) rfl ?_
  intro p e s m args below meth c s₁ B hml hv
  obtain ⟨rfl, hE, hLo, hWd⟩ := hv
  have hr : meth.sig.returnType = (some .int) := B.returns
  have C : Cx l g p s m meth c cX11_squareSum 2 RX11 := ⟨B.exec, B.bytes, hml, findClass_of_methodNamed B.named, hE, hLo, B.notSynchronized⟩
  have S : S2 g s σ R L s.heap [] := ⟨hWd, va_S.rf⟩
  have hx := C.1
  have hb := C.2.1
  have hl := lv_entry ([.int x0, .int x1]) (n := 2) (Nat.le_of_ble_eq_true rfl)
  rw [lg_entry_eq]
  generalize (lg_sl ([.int x0, .int x1]) ++ List.replicate (2 - (lg_sl ([.int x0, .int x1])).length) Slot.unset).toArray = ls at hl ⊢
  have hl : lv_has ls 2 [(0, .int x0), (1, .int x1)] := hl
  generalize hH : s.heap = H at S ⊢
  generalize hlc : ([] : List Loc) = locs at S ⊢
  rw [f_X11_squareSum] at h
  refine lv_iload_n hx hb dX11_squareSum_0 rfl (lv_at hl 0 rfl) ?_
  refine lv_iload_n hx hb dX11_squareSum_1 rfl (lv_at hl 0 rfl) ?_
  refine lv_imul hx hb dX11_squareSum_2 ?_
  refine lv_iload_n hx hb dX11_squareSum_3 rfl (lv_at hl 1 rfl) ?_
  refine lv_iload_n hx hb dX11_squareSum_4 rfl (lv_at hl 1 rfl) ?_
  refine lv_imul hx hb dX11_squareSum_5 ?_
  refine lv_iadd hx hb dX11_squareSum_6 ?_
  exact x_iret C S hr h dX11_squareSum_7
theorem dX11_quotient_0 : decode cX11_quotient 0 = .ok (.iload_n 1, 1) := by decide +kernel
theorem dX11_quotient_1 : decode cX11_quotient 1 = .ok (.ifCond .ne 7, 3) := by decide +kernel
theorem dX11_quotient_4 : decode cX11_quotient 4 = .ok (.iconst 0, 1) := by decide +kernel
theorem dX11_quotient_5 : decode cX11_quotient 5 = .ok (.goto 6, 3) := by decide +kernel
theorem dX11_quotient_8 : decode cX11_quotient 8 = .ok (.iload_n 0, 1) := by decide +kernel
theorem dX11_quotient_9 : decode cX11_quotient 9 = .ok (.iload_n 1, 1) := by decide +kernel
theorem dX11_quotient_10 : decode cX11_quotient 10 = .ok (.idiv, 1) := by decide +kernel
theorem dX11_quotient_11 : decode cX11_quotient 11 = .ok (.ireturn, 1) := by decide +kernel
def f_X11_quotient (N : Nat) (R : Nat → Nat → Nat) (σ : SI) (x0 : Int32) (x1 : Int32) : Option (Int32 × SI) := if x1 = 0 then (some ((0 : Int32), σ)) else (cd x1 (some (x0 / x1, σ)))
set_option maxHeartbeats 4000000 in
set_option maxRecDepth 100000 in
theorem ok_X11_quotient {l : Launch} {g : GL} {R : Nat → Nat → Nat} {L : Nat → Nat → Int64} {N : Nat} {σ : SI} {x0 : Int32} {x1 : Int32} {r : (Int32 × SI)} (h : f_X11_quotient N R σ x0 x1 = some r) (hSh : ShR R) : Ct l g 1 yX11_quotient cX11_quotient 2 (some .int) 202 202 0 0 [.int x0, .int x1] (mkS σ R L) (PI R L r) := by
  refine Met.ofW (cc := cX11_quotient) (maxL := 2) (ret := (some .int)) (by decide) rfl ?_
  intro p e s m args below meth c s₁ B hml hv
  obtain ⟨rfl, hE, hLo, hWd⟩ := hv
  have hr : meth.sig.returnType = (some .int) := B.returns
  have C : Cx l g p s m meth c cX11_quotient 2 RX11 := ⟨B.exec, B.bytes, hml, findClass_of_methodNamed B.named, hE, hLo, B.notSynchronized⟩
  have S : S2 g s σ R L s.heap [] := ⟨hWd, va_S.rf⟩
  have hx := C.1
  have hb := C.2.1
  have hl := lv_entry ([.int x0, .int x1]) (n := 2) (Nat.le_of_ble_eq_true rfl)
  rw [lg_entry_eq]
  generalize (lg_sl ([.int x0, .int x1]) ++ List.replicate (2 - (lg_sl ([.int x0, .int x1])).length) Slot.unset).toArray = ls at hl ⊢
  have hl : lv_has ls 2 [(0, .int x0), (1, .int x1)] := hl
  generalize hH : s.heap = H at S ⊢
  generalize hlc : ([] : List Loc) = locs at S ⊢
  rw [f_X11_quotient] at h
  refine lv_iload_n hx hb dX11_quotient_0 rfl (lv_at hl 1 rfl) ?_
  refine lv_if_ne (tgt := 8) hx hb dX11_quotient_1 (by decide) (fun c1 => ?_) (fun c1 => ?_)
  · have h := it_n c1 h
    refine lv_iload_n hx hb dX11_quotient_8 rfl (lv_at hl 0 rfl) ?_
    refine lv_iload_n hx hb dX11_quotient_9 rfl (lv_at hl 1 rfl) ?_
    obtain ⟨hz2, h⟩ := cd_el h
    refine lv_idiv hx hb dX11_quotient_10 hz2 ?_
    exact x_iret C S hr h dX11_quotient_11
  · have h := it_p c1 h
    refine lv_iconst (v := (0 : Int32)) hx hb dX11_quotient_4 (by decide) ?_
    refine lv_goto (tgt := 11) hx hb dX11_quotient_5 (by decide) ?_
    exact x_iret C S hr h dX11_quotient_11
theorem dX0_addCharge_0 : decode cX0_addCharge 0 = .ok (.aload_n 0, 1) := by decide +kernel
theorem dX0_addCharge_1 : decode cX0_addCharge 1 = .ok (.getfield 24, 3) := by decide +kernel
theorem dX0_addCharge_4 : decode cX0_addCharge 4 = .ok (.bipush 12, 2) := by decide +kernel
theorem dX0_addCharge_6 : decode cX0_addCharge 6 = .ok (.if_icmp .ge 33, 3) := by decide +kernel
theorem dX0_addCharge_9 : decode cX0_addCharge 9 = .ok (.aload_n 0, 1) := by decide +kernel
theorem dX0_addCharge_10 : decode cX0_addCharge 10 = .ok (.getfield 9, 3) := by decide +kernel
theorem dX0_addCharge_13 : decode cX0_addCharge 13 = .ok (.aload_n 0, 1) := by decide +kernel
theorem dX0_addCharge_14 : decode cX0_addCharge 14 = .ok (.getfield 24, 3) := by decide +kernel
theorem dX0_addCharge_17 : decode cX0_addCharge 17 = .ok (.iload_n 1, 1) := by decide +kernel
theorem dX0_addCharge_18 : decode cX0_addCharge 18 = .ok (.iastore, 1) := by decide +kernel
theorem dX0_addCharge_19 : decode cX0_addCharge 19 = .ok (.aload_n 0, 1) := by decide +kernel
theorem dX0_addCharge_20 : decode cX0_addCharge 20 = .ok (.getfield 15, 3) := by decide +kernel
theorem dX0_addCharge_23 : decode cX0_addCharge 23 = .ok (.aload_n 0, 1) := by decide +kernel
theorem dX0_addCharge_24 : decode cX0_addCharge 24 = .ok (.getfield 24, 3) := by decide +kernel
theorem dX0_addCharge_27 : decode cX0_addCharge 27 = .ok (.iload_n 2, 1) := by decide +kernel
theorem dX0_addCharge_28 : decode cX0_addCharge 28 = .ok (.iastore, 1) := by decide +kernel
theorem dX0_addCharge_29 : decode cX0_addCharge 29 = .ok (.aload_n 0, 1) := by decide +kernel
theorem dX0_addCharge_30 : decode cX0_addCharge 30 = .ok (.dup, 1) := by decide +kernel
theorem dX0_addCharge_31 : decode cX0_addCharge 31 = .ok (.getfield 24, 3) := by decide +kernel
theorem dX0_addCharge_34 : decode cX0_addCharge 34 = .ok (.iconst 1, 1) := by decide +kernel
theorem dX0_addCharge_35 : decode cX0_addCharge 35 = .ok (.iadd, 1) := by decide +kernel
theorem dX0_addCharge_36 : decode cX0_addCharge 36 = .ok (.putfield 24, 3) := by decide +kernel
theorem dX0_addCharge_39 : decode cX0_addCharge 39 = .ok (.return_, 1) := by decide +kernel
def f_X0_addCharge (N : Nat) (R : Nat → Nat → Nat) (σ : SI) (x0 : Nat) (x1 : Int32) (x2 : Int32) : Option (Unit × SI) := if (12 : Int32) ≤ (σ x0 7) then (some ((), σ)) else (ck (σ x0 7) 12 (sq (up σ (R x0 0) (σ x0 7).toNatClampNeg x1) (fun σ4 => ck (σ4 x0 7) 12 (sq (up σ4 (R x0 1) (σ4 x0 7).toNatClampNeg x2) (fun σ7 => sq (up σ7 x0 7 ((σ7 x0 7) + (1 : Int32))) (fun σ8 => some ((), σ8)))))))
set_option maxHeartbeats 4000000 in
set_option maxRecDepth 100000 in
theorem ok_X0_addCharge {l : Launch} {g : GL} {R : Nat → Nat → Nat} {L : Nat → Nat → Int64} {N : Nat} {σ : SI} {x0 : Nat} {x1 : Int32} {x2 : Int32} {r : (Unit × SI)} (h : f_X0_addCharge N R σ x0 x1 x2 = some r) (hSh : ShR R) (hx0 : Ok 202 x0 0) : Ct l g 1 yX0_addCharge cX0_addCharge 3 none 202 202 0 0 [.ref (ga g x0), .int x1, .int x2] (mkS σ R L) (PV R L r) := by
  refine Met.ofW (cc := cX0_addCharge) (maxL := 3) (ret := none) (by decide) rfl ?_
  intro p e s m args below meth c s₁ B hml hv
  obtain ⟨rfl, hE, hLo, hWd⟩ := hv
  have hr : meth.sig.returnType = none := B.returns
  have C : Cx l g p s m meth c cX0_addCharge 3 RX0 := ⟨B.exec, B.bytes, hml, findClass_of_methodNamed B.named, hE, hLo, B.notSynchronized⟩
  have S : S2 g s σ R L s.heap [] := ⟨hWd, va_S.rf⟩
  have hx := C.1
  have hb := C.2.1
  have hl := lv_entry ([.ref (ga g x0), .int x1, .int x2]) (n := 3) (Nat.le_of_ble_eq_true rfl)
  rw [lg_entry_eq]
  generalize (lg_sl ([.ref (ga g x0), .int x1, .int x2]) ++ List.replicate (3 - (lg_sl ([.ref (ga g x0), .int x1, .int x2])).length) Slot.unset).toArray = ls at hl ⊢
  have hl : lv_has ls 3 [(0, .ref (ga g x0)), (1, .int x1), (2, .int x2)] := hl
  generalize hH : s.heap = H at S ⊢
  generalize hlc : ([] : List Loc) = locs at S ⊢
  rw [f_X0_addCharge] at h
  refine lv_aload_n hx hb dX0_addCharge_0 rfl (lv_at hl 0 rfl) ?_
  refine x_getI C S KX0 hx0 7 (by decide) rfl rfl fl_RX0_24 dX0_addCharge_1 ?_
  refine lv_bipush (v := (12 : Int32)) hx hb dX0_addCharge_4 (by decide) ?_
  refine lv_icmp_ge (tgt := 39) hx hb dX0_addCharge_6 (by decide) (fun c1 => ?_) (fun c1 => ?_)
  · have h := it_p c1 h
    exact x_vret C S hr h dX0_addCharge_39
  · have h := it_n c1 h
    refine lv_aload_n hx hb dX0_addCharge_9 rfl (lv_at hl 0 rfl) ?_
    have hR2 : Ok 202 (R x0 0) 10012 := hSh x0 0 0 10012 hx0.1 rfl
    refine x_getR C S KX0 hx0 0 (by decide) rfl rfl fl_RX0_9 hR2 dX0_addCharge_10 ?_
    refine lv_aload_n hx hb dX0_addCharge_13 rfl (lv_at hl 0 rfl) ?_
    refine x_getI C S KX0 hx0 7 (by decide) rfl rfl fl_RX0_24 dX0_addCharge_14 ?_
    refine lv_iload_n hx hb dX0_addCharge_17 rfl (lv_at hl 1 rfl) ?_
    obtain ⟨hi3, h⟩ := ck_el h
    obtain ⟨σ4, hs4, h⟩ := sq_el h
    refine x_iast (len := 12) C S (by decide) hR2 hi3 dX0_addCharge_18 hs4 (fun H locs S => ?_)
    refine lv_aload_n hx hb dX0_addCharge_19 rfl (lv_at hl 0 rfl) ?_
    have hR5 : Ok 202 (R x0 1) 10012 := hSh x0 0 1 10012 hx0.1 rfl
    refine x_getR C S KX0 hx0 1 (by decide) rfl rfl fl_RX0_15 hR5 dX0_addCharge_20 ?_
    refine lv_aload_n hx hb dX0_addCharge_23 rfl (lv_at hl 0 rfl) ?_
    refine x_getI C S KX0 hx0 7 (by decide) rfl rfl fl_RX0_24 dX0_addCharge_24 ?_
    refine lv_iload_n hx hb dX0_addCharge_27 rfl (lv_at hl 2 rfl) ?_
    obtain ⟨hi6, h⟩ := ck_el h
    obtain ⟨σ7, hs7, h⟩ := sq_el h
    refine x_iast (len := 12) C S (by decide) hR5 hi6 dX0_addCharge_28 hs7 (fun H locs S => ?_)
    refine lv_aload_n hx hb dX0_addCharge_29 rfl (lv_at hl 0 rfl) ?_
    refine lv_dup hx hb dX0_addCharge_30 rfl ?_
    refine x_getI C S KX0 hx0 7 (by decide) rfl rfl fl_RX0_24 dX0_addCharge_31 ?_
    refine lv_iconst (v := (1 : Int32)) hx hb dX0_addCharge_34 (by decide) ?_
    refine lv_iadd hx hb dX0_addCharge_35 ?_
    obtain ⟨σ8, hs8, h⟩ := sq_el h
    refine x_putI C S KX0 hx0 7 (by decide) rfl rfl rfl ⟨rfl, rfl⟩ fl_RX0_24 dX0_addCharge_36 hs8 (fun H locs S => ?_)
    exact x_vret C S hr h dX0_addCharge_39
theorem dX0_sumFromDelay_0 : decode cX0_sumFromDelay 0 = .ok (.iconst 0, 1) := by decide +kernel
theorem dX0_sumFromDelay_1 : decode cX0_sumFromDelay 1 = .ok (.istore_n 2, 1) := by decide +kernel
theorem dX0_sumFromDelay_2 : decode cX0_sumFromDelay 2 = .ok (.iconst 0, 1) := by decide +kernel
theorem dX0_sumFromDelay_3 : decode cX0_sumFromDelay 3 = .ok (.istore_n 3, 1) := by decide +kernel
theorem dX0_sumFromDelay_4 : decode cX0_sumFromDelay 4 = .ok (.iload_n 3, 1) := by decide +kernel
theorem dX0_sumFromDelay_5 : decode cX0_sumFromDelay 5 = .ok (.aload_n 0, 1) := by decide +kernel
theorem dX0_sumFromDelay_6 : decode cX0_sumFromDelay 6 = .ok (.getfield 24, 3) := by decide +kernel
theorem dX0_sumFromDelay_9 : decode cX0_sumFromDelay 9 = .ok (.if_icmp .ge 41, 3) := by decide +kernel
theorem dX0_sumFromDelay_12 : decode cX0_sumFromDelay 12 = .ok (.aload_n 0, 1) := by decide +kernel
theorem dX0_sumFromDelay_13 : decode cX0_sumFromDelay 13 = .ok (.getfield 15, 3) := by decide +kernel
theorem dX0_sumFromDelay_16 : decode cX0_sumFromDelay 16 = .ok (.iload_n 3, 1) := by decide +kernel
theorem dX0_sumFromDelay_17 : decode cX0_sumFromDelay 17 = .ok (.iaload, 1) := by decide +kernel
theorem dX0_sumFromDelay_18 : decode cX0_sumFromDelay 18 = .ok (.iload_n 1, 1) := by decide +kernel
theorem dX0_sumFromDelay_19 : decode cX0_sumFromDelay 19 = .ok (.if_icmp .lt 25, 3) := by decide +kernel
theorem dX0_sumFromDelay_22 : decode cX0_sumFromDelay 22 = .ok (.aload_n 0, 1) := by decide +kernel
theorem dX0_sumFromDelay_23 : decode cX0_sumFromDelay 23 = .ok (.getfield 15, 3) := by decide +kernel
theorem dX0_sumFromDelay_26 : decode cX0_sumFromDelay 26 = .ok (.iload_n 3, 1) := by decide +kernel
theorem dX0_sumFromDelay_27 : decode cX0_sumFromDelay 27 = .ok (.iaload, 1) := by decide +kernel
theorem dX0_sumFromDelay_28 : decode cX0_sumFromDelay 28 = .ok (.iload_n 1, 1) := by decide +kernel
theorem dX0_sumFromDelay_29 : decode cX0_sumFromDelay 29 = .ok (.bipush 7, 2) := by decide +kernel
theorem dX0_sumFromDelay_31 : decode cX0_sumFromDelay 31 = .ok (.iadd, 1) := by decide +kernel
theorem dX0_sumFromDelay_32 : decode cX0_sumFromDelay 32 = .ok (.if_icmp .gt 12, 3) := by decide +kernel
theorem dX0_sumFromDelay_35 : decode cX0_sumFromDelay 35 = .ok (.iload_n 2, 1) := by decide +kernel
theorem dX0_sumFromDelay_36 : decode cX0_sumFromDelay 36 = .ok (.aload_n 0, 1) := by decide +kernel
theorem dX0_sumFromDelay_37 : decode cX0_sumFromDelay 37 = .ok (.getfield 9, 3) := by decide +kernel
theorem dX0_sumFromDelay_40 : decode cX0_sumFromDelay 40 = .ok (.iload_n 3, 1) := by decide +kernel
theorem dX0_sumFromDelay_41 : decode cX0_sumFromDelay 41 = .ok (.iaload, 1) := by decide +kernel
theorem dX0_sumFromDelay_42 : decode cX0_sumFromDelay 42 = .ok (.iadd, 1) := by decide +kernel
theorem dX0_sumFromDelay_43 : decode cX0_sumFromDelay 43 = .ok (.istore_n 2, 1) := by decide +kernel
theorem dX0_sumFromDelay_44 : decode cX0_sumFromDelay 44 = .ok (.iinc 3 1, 3) := by decide +kernel
theorem dX0_sumFromDelay_47 : decode cX0_sumFromDelay 47 = .ok (.goto (-43), 3) := by decide +kernel
theorem dX0_sumFromDelay_50 : decode cX0_sumFromDelay 50 = .ok (.iload_n 2, 1) := by decide +kernel
theorem dX0_sumFromDelay_51 : decode cX0_sumFromDelay 51 = .ok (.ireturn, 1) := by decide +kernel
def f_X0_sumFromDelay_44 (N : Nat) (R : Nat → Nat → Nat) (k4 : SI → Nat → Int32 → Int32 → Int32 → Option (Int32 × SI)) (σ : SI) (x0 : Nat) (x1 : Int32) (x2 : Int32) (x3 : Int32) : Option (Int32 × SI) := k4 σ x0 x1 x2 (x3 + 1)
def f_X0_sumFromDelay_4 (N : Nat) (R : Nat → Nat → Nat) : Nat → SI → Nat → Int32 → Int32 → Int32 → Option (Int32 × SI)
  | 0, _, _, _, _, _ => none
  | n + 1, σ, x0, x1, x2, x3 => if (σ x0 7) ≤ x3 then (some (x2, σ)) else (ck x3 12 (if (σ (R x0 1) x3.toNatClampNeg) < x1 then (f_X0_sumFromDelay_44 N R (fun σ x0 x1 x2 x3 => f_X0_sumFromDelay_4 N R n σ x0 x1 x2 x3) σ x0 x1 x2 x3) else (ck x3 12 (if (x1 + (7 : Int32)) < (σ (R x0 1) x3.toNatClampNeg) then (f_X0_sumFromDelay_44 N R (fun σ x0 x1 x2 x3 => f_X0_sumFromDelay_4 N R n σ x0 x1 x2 x3) σ x0 x1 x2 x3) else (ck x3 12 (f_X0_sumFromDelay_44 N R (fun σ x0 x1 x2 x3 => f_X0_sumFromDelay_4 N R n σ x0 x1 x2 x3) σ x0 x1 (x2 + (σ (R x0 0) x3.toNatClampNeg)) x3))))))
def f_X0_sumFromDelay (N : Nat) (R : Nat → Nat → Nat) (σ : SI) (x0 : Nat) (x1 : Int32) : Option (Int32 × SI) := f_X0_sumFromDelay_4 N R N σ x0 x1 (0 : Int32) (0 : Int32)
set_option maxHeartbeats 4000000 in
set_option maxRecDepth 100000 in
theorem w_X0_sumFromDelay_44 {l : Launch} {g : GL} {p : Program} {e : Jvm.Env} {s : State} {m : MethodId} {args : Array Value} {below : List Frame} {meth : Method} {c : Code} {R : Nat → Nat → Nat} {L : Nat → Nat → Int64} {r : (Int32 × SI)} {N : Nat} {k4 : SI → Nat → Int32 → Int32 → Int32 → Option (Int32 × SI)} (C : Cx l g p s m meth c cX0_sumFromDelay 4 RX0) (hr : meth.sig.returnType = (some .int)) (hSh : ShR R) (hk4 : ∀ (σ : SI) (x0 : Nat) (x1 : Int32) (x2 : Int32) (x3 : Int32), k4 σ x0 x1 x2 x3 = some r → Ok 202 x0 0 → ∀ (H : Heap) (locs : List Loc) (ls : Array Slot), S2 g s σ R L H locs → lv_has ls 4 [(0, .ref (ga g x0)), (1, .int x1), (2, .int x2), (3, .int x3)] → W p l e (rmd 1 0 0) s m args below meth c H locs 0 0 (MQ below (Qg g 202 (PI R L r)) args s 0 0 (gA g)) (F0 m 4 ls [])) : ∀ (σ : SI) (x0 : Nat) (x1 : Int32) (x2 : Int32) (x3 : Int32), f_X0_sumFromDelay_44 N R k4 σ x0 x1 x2 x3 = some r → Ok 202 x0 0 → ∀ (H : Heap) (locs : List Loc) (ls : Array Slot), S2 g s σ R L H locs → lv_has ls 4 [(0, .ref (ga g x0)), (1, .int x1), (2, .int x2), (3, .int x3)] → W p l e (rmd 1 0 0) s m args below meth c H locs 0 0 (MQ below (Qg g 202 (PI R L r)) args s 0 0 (gA g)) (F0 m 44 ls []) := by
  have hx := C.1
  have hb := C.2.1
  intro σ x0 x1 x2 x3 h hx0 H locs ls S hl
  rw [f_X0_sumFromDelay_44] at h
  refine lv_iinc (v := x3 + 1) (lv' := [(3, .int (x3 + 1)), (0, .ref (ga g x0)), (1, .int x1), (2, .int x2)]) hx hb dX0_sumFromDelay_44 hl (k := 3) rfl rfl (by decide) rfl (fun ls hl => ?_)
  refine lv_goto (tgt := 4) hx hb dX0_sumFromDelay_47 (by decide) ?_
  exact hk4 σ x0 x1 x2 (x3 + 1) h hx0 H locs ls S (lv_sub hl [1, 2, 3, 0] rfl)
set_option maxHeartbeats 4000000 in
set_option maxRecDepth 100000 in
theorem w_X0_sumFromDelay_4 {l : Launch} {g : GL} {p : Program} {e : Jvm.Env} {s : State} {m : MethodId} {args : Array Value} {below : List Frame} {meth : Method} {c : Code} {R : Nat → Nat → Nat} {L : Nat → Nat → Int64} {r : (Int32 × SI)} {N : Nat} (C : Cx l g p s m meth c cX0_sumFromDelay 4 RX0) (hr : meth.sig.returnType = (some .int)) (hSh : ShR R) : ∀ (n : Nat) (σ : SI) (x0 : Nat) (x1 : Int32) (x2 : Int32) (x3 : Int32), f_X0_sumFromDelay_4 N R n σ x0 x1 x2 x3 = some r → Ok 202 x0 0 → ∀ (H : Heap) (locs : List Loc) (ls : Array Slot), S2 g s σ R L H locs → lv_has ls 4 [(0, .ref (ga g x0)), (1, .int x1), (2, .int x2), (3, .int x3)] → W p l e (rmd 1 0 0) s m args below meth c H locs 0 0 (MQ below (Qg g 202 (PI R L r)) args s 0 0 (gA g)) (F0 m 4 ls []) := by
  have hx := C.1
  have hb := C.2.1
  intro n
  induction n with
  | zero =>
    intro σ x0 x1 x2 x3 h
    cases (show (none : Option (Int32 × SI)) = some r from h)
  | succ n ih =>
    intro σ x0 x1 x2 x3 h hx0 H locs ls S hl
    rw [f_X0_sumFromDelay_4] at h
    refine lv_iload_n hx hb dX0_sumFromDelay_4 rfl (lv_at hl 3 rfl) ?_
    refine lv_aload_n hx hb dX0_sumFromDelay_5 rfl (lv_at hl 0 rfl) ?_
    refine x_getI C S KX0 hx0 7 (by decide) rfl rfl fl_RX0_24 dX0_sumFromDelay_6 ?_
    refine lv_icmp_ge (tgt := 50) hx hb dX0_sumFromDelay_9 (by decide) (fun c1 => ?_) (fun c1 => ?_)
    · have h := it_p c1 h
      refine lv_iload_n hx hb dX0_sumFromDelay_50 rfl (lv_at hl 2 rfl) ?_
      exact x_iret C S hr h dX0_sumFromDelay_51
    · have h := it_n c1 h
      refine lv_aload_n hx hb dX0_sumFromDelay_12 rfl (lv_at hl 0 rfl) ?_
      have hR2 : Ok 202 (R x0 1) 10012 := hSh x0 0 1 10012 hx0.1 rfl
      refine x_getR C S KX0 hx0 1 (by decide) rfl rfl fl_RX0_15 hR2 dX0_sumFromDelay_13 ?_
      refine lv_iload_n hx hb dX0_sumFromDelay_16 rfl (lv_at hl 3 rfl) ?_
      obtain ⟨hi3, h⟩ := ck_el h
      refine x_iald (len := 12) C S (by decide) hR2 hi3 dX0_sumFromDelay_17 ?_
      refine lv_iload_n hx hb dX0_sumFromDelay_18 rfl (lv_at hl 1 rfl) ?_
      refine lv_icmp_lt (tgt := 44) hx hb dX0_sumFromDelay_19 (by decide) (fun c4 => ?_) (fun c4 => ?_)
      · have h := it_p c4 h
        exact w_X0_sumFromDelay_44 C hr hSh ih σ x0 x1 x2 x3 h hx0 H locs ls S (lv_sub hl [0, 1, 2, 3] rfl)
      · have h := it_n c4 h
        refine lv_aload_n hx hb dX0_sumFromDelay_22 rfl (lv_at hl 0 rfl) ?_
        have hR5 : Ok 202 (R x0 1) 10012 := hSh x0 0 1 10012 hx0.1 rfl
        refine x_getR C S KX0 hx0 1 (by decide) rfl rfl fl_RX0_15 hR5 dX0_sumFromDelay_23 ?_
        refine lv_iload_n hx hb dX0_sumFromDelay_26 rfl (lv_at hl 3 rfl) ?_
        obtain ⟨hi6, h⟩ := ck_el h
        refine x_iald (len := 12) C S (by decide) hR5 hi6 dX0_sumFromDelay_27 ?_
        refine lv_iload_n hx hb dX0_sumFromDelay_28 rfl (lv_at hl 1 rfl) ?_
        refine lv_bipush (v := (7 : Int32)) hx hb dX0_sumFromDelay_29 (by decide) ?_
        refine lv_iadd hx hb dX0_sumFromDelay_31 ?_
        refine lv_icmp_gt (tgt := 44) hx hb dX0_sumFromDelay_32 (by decide) (fun c7 => ?_) (fun c7 => ?_)
        · have h := it_p c7 h
          exact w_X0_sumFromDelay_44 C hr hSh ih σ x0 x1 x2 x3 h hx0 H locs ls S (lv_sub hl [0, 1, 2, 3] rfl)
        · have h := it_n c7 h
          refine lv_iload_n hx hb dX0_sumFromDelay_35 rfl (lv_at hl 2 rfl) ?_
          refine lv_aload_n hx hb dX0_sumFromDelay_36 rfl (lv_at hl 0 rfl) ?_
          have hR8 : Ok 202 (R x0 0) 10012 := hSh x0 0 0 10012 hx0.1 rfl
          refine x_getR C S KX0 hx0 0 (by decide) rfl rfl fl_RX0_9 hR8 dX0_sumFromDelay_37 ?_
          refine lv_iload_n hx hb dX0_sumFromDelay_40 rfl (lv_at hl 3 rfl) ?_
          obtain ⟨hi9, h⟩ := ck_el h
          refine x_iald (len := 12) C S (by decide) hR8 hi9 dX0_sumFromDelay_41 ?_
          refine lv_iadd hx hb dX0_sumFromDelay_42 ?_
          refine lv_istore_n (lv' := [(2, .int (x2 + (σ (R x0 0) x3.toNatClampNeg))), (0, .ref (ga g x0)), (1, .int x1), (3, .int x3)]) hx hb dX0_sumFromDelay_43 rfl hl (by decide) rfl (fun ls hl => ?_)
          exact w_X0_sumFromDelay_44 C hr hSh ih σ x0 x1 (x2 + (σ (R x0 0) x3.toNatClampNeg)) x3 h hx0 H locs ls S (lv_sub hl [1, 2, 0, 3] rfl)
set_option maxHeartbeats 4000000 in
set_option maxRecDepth 100000 in
theorem ok_X0_sumFromDelay {l : Launch} {g : GL} {R : Nat → Nat → Nat} {L : Nat → Nat → Int64} {N : Nat} {σ : SI} {x0 : Nat} {x1 : Int32} {r : (Int32 × SI)} (h : f_X0_sumFromDelay N R σ x0 x1 = some r) (hSh : ShR R) (hx0 : Ok 202 x0 0) : Ct l g 1 yX0_sumFromDelay cX0_sumFromDelay 4 (some .int) 202 202 0 0 [.ref (ga g x0), .int x1] (mkS σ R L) (PI R L r) := by
  refine Met.ofW (cc := cX0_sumFromDelay) (maxL := 4) (ret := (some .int)) (by decide) rfl ?_
  intro p e s m args below meth c s₁ B hml hv
  obtain ⟨rfl, hE, hLo, hWd⟩ := hv
  have hr : meth.sig.returnType = (some .int) := B.returns
  have C : Cx l g p s m meth c cX0_sumFromDelay 4 RX0 := ⟨B.exec, B.bytes, hml, findClass_of_methodNamed B.named, hE, hLo, B.notSynchronized⟩
  have S : S2 g s σ R L s.heap [] := ⟨hWd, va_S.rf⟩
  have hx := C.1
  have hb := C.2.1
  have hl := lv_entry ([.ref (ga g x0), .int x1]) (n := 4) (Nat.le_of_ble_eq_true rfl)
  rw [lg_entry_eq]
  generalize (lg_sl ([.ref (ga g x0), .int x1]) ++ List.replicate (4 - (lg_sl ([.ref (ga g x0), .int x1])).length) Slot.unset).toArray = ls at hl ⊢
  have hl : lv_has ls 4 [(0, .ref (ga g x0)), (1, .int x1)] := hl
  generalize hH : s.heap = H at S ⊢
  generalize hlc : ([] : List Loc) = locs at S ⊢
  rw [f_X0_sumFromDelay] at h
  refine lv_iconst (v := (0 : Int32)) hx hb dX0_sumFromDelay_0 (by decide) ?_
  refine lv_istore_n (lv' := [(2, .int (0 : Int32)), (0, .ref (ga g x0)), (1, .int x1)]) hx hb dX0_sumFromDelay_1 rfl hl (by decide) rfl (fun ls hl => ?_)
  refine lv_iconst (v := (0 : Int32)) hx hb dX0_sumFromDelay_2 (by decide) ?_
  refine lv_istore_n (lv' := [(3, .int (0 : Int32)), (2, .int (0 : Int32)), (0, .ref (ga g x0)), (1, .int x1)]) hx hb dX0_sumFromDelay_3 rfl hl (by decide) rfl (fun ls hl => ?_)
  exact w_X0_sumFromDelay_4 C hr hSh N σ x0 x1 (0 : Int32) (0 : Int32) h hx0 H locs ls S (lv_sub hl [2, 3, 1, 0] rfl)
theorem dX0_measureWindow_0 : decode cX0_measureWindow 0 = .ok (.aload_n 0, 1) := by decide +kernel
theorem dX0_measureWindow_1 : decode cX0_measureWindow 1 = .ok (.iconst 0, 1) := by decide +kernel
theorem dX0_measureWindow_2 : decode cX0_measureWindow 2 = .ok (.putfield 37, 3) := by decide +kernel
theorem dX0_measureWindow_5 : decode cX0_measureWindow 5 = .ok (.aload_n 0, 1) := by decide +kernel
theorem dX0_measureWindow_6 : decode cX0_measureWindow 6 = .ok (.iconst 0, 1) := by decide +kernel
theorem dX0_measureWindow_7 : decode cX0_measureWindow 7 = .ok (.putfield 40, 3) := by decide +kernel
theorem dX0_measureWindow_10 : decode cX0_measureWindow 10 = .ok (.iconst 0, 1) := by decide +kernel
theorem dX0_measureWindow_11 : decode cX0_measureWindow 11 = .ok (.istore_n 1, 1) := by decide +kernel
theorem dX0_measureWindow_12 : decode cX0_measureWindow 12 = .ok (.iload_n 1, 1) := by decide +kernel
theorem dX0_measureWindow_13 : decode cX0_measureWindow 13 = .ok (.aload_n 0, 1) := by decide +kernel
theorem dX0_measureWindow_14 : decode cX0_measureWindow 14 = .ok (.getfield 24, 3) := by decide +kernel
theorem dX0_measureWindow_17 : decode cX0_measureWindow 17 = .ok (.if_icmp .ge 64, 3) := by decide +kernel
theorem dX0_measureWindow_20 : decode cX0_measureWindow 20 = .ok (.aload_n 0, 1) := by decide +kernel
theorem dX0_measureWindow_21 : decode cX0_measureWindow 21 = .ok (.aload_n 0, 1) := by decide +kernel
theorem dX0_measureWindow_22 : decode cX0_measureWindow 22 = .ok (.getfield 15, 3) := by decide +kernel
theorem dX0_measureWindow_25 : decode cX0_measureWindow 25 = .ok (.iload_n 1, 1) := by decide +kernel
theorem dX0_measureWindow_26 : decode cX0_measureWindow 26 = .ok (.iaload, 1) := by decide +kernel
theorem dX0_measureWindow_27 : decode cX0_measureWindow 27 = .ok (.invokevirtual 43, 3) := by decide +kernel
theorem dX0_measureWindow_30 : decode cX0_measureWindow 30 = .ok (.istore_n 2, 1) := by decide +kernel
theorem dX0_measureWindow_31 : decode cX0_measureWindow 31 = .ok (.iload_n 2, 1) := by decide +kernel
theorem dX0_measureWindow_32 : decode cX0_measureWindow 32 = .ok (.aload_n 0, 1) := by decide +kernel
theorem dX0_measureWindow_33 : decode cX0_measureWindow 33 = .ok (.getfield 37, 3) := by decide +kernel
theorem dX0_measureWindow_36 : decode cX0_measureWindow 36 = .ok (.if_icmp .gt 24, 3) := by decide +kernel
theorem dX0_measureWindow_39 : decode cX0_measureWindow 39 = .ok (.iload_n 2, 1) := by decide +kernel
theorem dX0_measureWindow_40 : decode cX0_measureWindow 40 = .ok (.aload_n 0, 1) := by decide +kernel
theorem dX0_measureWindow_41 : decode cX0_measureWindow 41 = .ok (.getfield 37, 3) := by decide +kernel
theorem dX0_measureWindow_44 : decode cX0_measureWindow 44 = .ok (.if_icmp .ne 31, 3) := by decide +kernel
theorem dX0_measureWindow_47 : decode cX0_measureWindow 47 = .ok (.aload_n 0, 1) := by decide +kernel
theorem dX0_measureWindow_48 : decode cX0_measureWindow 48 = .ok (.getfield 15, 3) := by decide +kernel
theorem dX0_measureWindow_51 : decode cX0_measureWindow 51 = .ok (.iload_n 1, 1) := by decide +kernel
theorem dX0_measureWindow_52 : decode cX0_measureWindow 52 = .ok (.iaload, 1) := by decide +kernel
theorem dX0_measureWindow_53 : decode cX0_measureWindow 53 = .ok (.aload_n 0, 1) := by decide +kernel
theorem dX0_measureWindow_54 : decode cX0_measureWindow 54 = .ok (.getfield 40, 3) := by decide +kernel
theorem dX0_measureWindow_57 : decode cX0_measureWindow 57 = .ok (.if_icmp .ge 18, 3) := by decide +kernel
theorem dX0_measureWindow_60 : decode cX0_measureWindow 60 = .ok (.aload_n 0, 1) := by decide +kernel
theorem dX0_measureWindow_61 : decode cX0_measureWindow 61 = .ok (.iload_n 2, 1) := by decide +kernel
theorem dX0_measureWindow_62 : decode cX0_measureWindow 62 = .ok (.putfield 37, 3) := by decide +kernel
theorem dX0_measureWindow_65 : decode cX0_measureWindow 65 = .ok (.aload_n 0, 1) := by decide +kernel
theorem dX0_measureWindow_66 : decode cX0_measureWindow 66 = .ok (.aload_n 0, 1) := by decide +kernel
theorem dX0_measureWindow_67 : decode cX0_measureWindow 67 = .ok (.getfield 15, 3) := by decide +kernel
theorem dX0_measureWindow_70 : decode cX0_measureWindow 70 = .ok (.iload_n 1, 1) := by decide +kernel
theorem dX0_measureWindow_71 : decode cX0_measureWindow 71 = .ok (.iaload, 1) := by decide +kernel
theorem dX0_measureWindow_72 : decode cX0_measureWindow 72 = .ok (.putfield 40, 3) := by decide +kernel
theorem dX0_measureWindow_75 : decode cX0_measureWindow 75 = .ok (.iinc 1 1, 3) := by decide +kernel
theorem dX0_measureWindow_78 : decode cX0_measureWindow 78 = .ok (.goto (-66), 3) := by decide +kernel
theorem dX0_measureWindow_81 : decode cX0_measureWindow 81 = .ok (.return_, 1) := by decide +kernel
def f_X0_measureWindow_75 (N : Nat) (R : Nat → Nat → Nat) (k12 : SI → Nat → Int32 → Option (Unit × SI)) (σ : SI) (x0 : Nat) (x1 : Int32) : Option (Unit × SI) := k12 σ x0 (x1 + 1)
def f_X0_measureWindow_60 (N : Nat) (R : Nat → Nat → Nat) (k12 : SI → Nat → Int32 → Option (Unit × SI)) (σ : SI) (x0 : Nat) (x1 : Int32) (x2 : Int32) : Option (Unit × SI) := sq (up σ x0 8 x2) (fun σ8 => ck x1 12 (sq (up σ8 x0 9 (σ8 (R x0 1) x1.toNatClampNeg)) (fun σ11 => f_X0_measureWindow_75 N R k12 σ11 x0 x1)))
def f_X0_measureWindow_12 (N : Nat) (R : Nat → Nat → Nat) : Nat → SI → Nat → Int32 → Option (Unit × SI)
  | 0, _, _, _ => none
  | n + 1, σ, x0, x1 => if (σ x0 7) ≤ x1 then (some ((), σ)) else (ck x1 12 (bd (f_X0_sumFromDelay N R σ x0 (σ (R x0 1) x1.toNatClampNeg)) (fun a6 σ6 => if (σ6 x0 8) < a6 then (f_X0_measureWindow_60 N R (fun σ x0 x1 => f_X0_measureWindow_12 N R n σ x0 x1) σ6 x0 x1 a6) else (if a6 = (σ6 x0 8) then (ck x1 12 (if (σ6 x0 9) ≤ (σ6 (R x0 1) x1.toNatClampNeg) then (f_X0_measureWindow_75 N R (fun σ x0 x1 => f_X0_measureWindow_12 N R n σ x0 x1) σ6 x0 x1) else (f_X0_measureWindow_60 N R (fun σ x0 x1 => f_X0_measureWindow_12 N R n σ x0 x1) σ6 x0 x1 a6))) else (f_X0_measureWindow_75 N R (fun σ x0 x1 => f_X0_measureWindow_12 N R n σ x0 x1) σ6 x0 x1)))))
def f_X0_measureWindow (N : Nat) (R : Nat → Nat → Nat) (σ : SI) (x0 : Nat) : Option (Unit × SI) := sq (up σ x0 8 (0 : Int32)) (fun σ1 => sq (up σ1 x0 9 (0 : Int32)) (fun σ2 => f_X0_measureWindow_12 N R N σ2 x0 (0 : Int32)))
set_option maxHeartbeats 4000000 in
set_option maxRecDepth 100000 in
theorem w_X0_measureWindow_75 {l : Launch} {g : GL} {p : Program} {e : Jvm.Env} {s : State} {m : MethodId} {args : Array Value} {below : List Frame} {meth : Method} {c : Code} {R : Nat → Nat → Nat} {L : Nat → Nat → Int64} {r : (Unit × SI)} {N : Nat} {k12 : SI → Nat → Int32 → Option (Unit × SI)} (C : Cx l g p s m meth c cX0_measureWindow 3 RX0) (hr : meth.sig.returnType = none) (hSh : ShR R) (hk12 : ∀ (σ : SI) (x0 : Nat) (x1 : Int32), k12 σ x0 x1 = some r → Ok 202 x0 0 → ∀ (H : Heap) (locs : List Loc) (ls : Array Slot), S2 g s σ R L H locs → lv_has ls 3 [(0, .ref (ga g x0)), (1, .int x1)] → W p l e (rmd 2 0 0) s m args below meth c H locs 0 0 (MQ below (Qg g 202 (PV R L r)) args s 0 0 (gA g)) (F0 m 12 ls [])) : ∀ (σ : SI) (x0 : Nat) (x1 : Int32), f_X0_measureWindow_75 N R k12 σ x0 x1 = some r → Ok 202 x0 0 → ∀ (H : Heap) (locs : List Loc) (ls : Array Slot), S2 g s σ R L H locs → lv_has ls 3 [(0, .ref (ga g x0)), (1, .int x1)] → W p l e (rmd 2 0 0) s m args below meth c H locs 0 0 (MQ below (Qg g 202 (PV R L r)) args s 0 0 (gA g)) (F0 m 75 ls []) := by
  have hx := C.1
  have hb := C.2.1
  intro σ x0 x1 h hx0 H locs ls S hl
  rw [f_X0_measureWindow_75] at h
  refine lv_iinc (v := x1 + 1) (lv' := [(1, .int (x1 + 1)), (0, .ref (ga g x0))]) hx hb dX0_measureWindow_75 hl (k := 1) rfl rfl (by decide) rfl (fun ls hl => ?_)
  refine lv_goto (tgt := 12) hx hb dX0_measureWindow_78 (by decide) ?_
  exact hk12 σ x0 (x1 + 1) h hx0 H locs ls S (lv_sub hl [1, 0] rfl)
set_option maxHeartbeats 4000000 in
set_option maxRecDepth 100000 in
theorem w_X0_measureWindow_60 {l : Launch} {g : GL} {p : Program} {e : Jvm.Env} {s : State} {m : MethodId} {args : Array Value} {below : List Frame} {meth : Method} {c : Code} {R : Nat → Nat → Nat} {L : Nat → Nat → Int64} {r : (Unit × SI)} {N : Nat} {k12 : SI → Nat → Int32 → Option (Unit × SI)} (C : Cx l g p s m meth c cX0_measureWindow 3 RX0) (hr : meth.sig.returnType = none) (hSh : ShR R) (hk12 : ∀ (σ : SI) (x0 : Nat) (x1 : Int32), k12 σ x0 x1 = some r → Ok 202 x0 0 → ∀ (H : Heap) (locs : List Loc) (ls : Array Slot), S2 g s σ R L H locs → lv_has ls 3 [(0, .ref (ga g x0)), (1, .int x1)] → W p l e (rmd 2 0 0) s m args below meth c H locs 0 0 (MQ below (Qg g 202 (PV R L r)) args s 0 0 (gA g)) (F0 m 12 ls [])) : ∀ (σ : SI) (x0 : Nat) (x1 : Int32) (x2 : Int32), f_X0_measureWindow_60 N R k12 σ x0 x1 x2 = some r → Ok 202 x0 0 → ∀ (H : Heap) (locs : List Loc) (ls : Array Slot), S2 g s σ R L H locs → lv_has ls 3 [(0, .ref (ga g x0)), (1, .int x1), (2, .int x2)] → W p l e (rmd 2 0 0) s m args below meth c H locs 0 0 (MQ below (Qg g 202 (PV R L r)) args s 0 0 (gA g)) (F0 m 60 ls []) := by
  have hx := C.1
  have hb := C.2.1
  intro σ x0 x1 x2 h hx0 H locs ls S hl
  rw [f_X0_measureWindow_60] at h
  refine lv_aload_n hx hb dX0_measureWindow_60 rfl (lv_at hl 0 rfl) ?_
  refine lv_iload_n hx hb dX0_measureWindow_61 rfl (lv_at hl 2 rfl) ?_
  obtain ⟨σ8, hs8, h⟩ := sq_el h
  refine x_putI C S KX0 hx0 8 (by decide) rfl rfl rfl ⟨rfl, rfl⟩ fl_RX0_37 dX0_measureWindow_62 hs8 (fun H locs S => ?_)
  refine lv_aload_n hx hb dX0_measureWindow_65 rfl (lv_at hl 0 rfl) ?_
  refine lv_aload_n hx hb dX0_measureWindow_66 rfl (lv_at hl 0 rfl) ?_
  have hR9 : Ok 202 (R x0 1) 10012 := hSh x0 0 1 10012 hx0.1 rfl
  refine x_getR C S KX0 hx0 1 (by decide) rfl rfl fl_RX0_15 hR9 dX0_measureWindow_67 ?_
  refine lv_iload_n hx hb dX0_measureWindow_70 rfl (lv_at hl 1 rfl) ?_
  obtain ⟨hi10, h⟩ := ck_el h
  refine x_iald (len := 12) C S (by decide) hR9 hi10 dX0_measureWindow_71 ?_
  obtain ⟨σ11, hs11, h⟩ := sq_el h
  refine x_putI C S KX0 hx0 9 (by decide) rfl rfl rfl ⟨rfl, rfl⟩ fl_RX0_40 dX0_measureWindow_72 hs11 (fun H locs S => ?_)
  exact w_X0_measureWindow_75 C hr hSh hk12 σ11 x0 x1 h hx0 H locs ls S (lv_sub hl [0, 1] rfl)
set_option maxHeartbeats 4000000 in
set_option maxRecDepth 100000 in
theorem w_X0_measureWindow_12 {l : Launch} {g : GL} {p : Program} {e : Jvm.Env} {s : State} {m : MethodId} {args : Array Value} {below : List Frame} {meth : Method} {c : Code} {R : Nat → Nat → Nat} {L : Nat → Nat → Int64} {r : (Unit × SI)} {N : Nat} (C : Cx l g p s m meth c cX0_measureWindow 3 RX0) (hr : meth.sig.returnType = none) (hSh : ShR R) : ∀ (n : Nat) (σ : SI) (x0 : Nat) (x1 : Int32), f_X0_measureWindow_12 N R n σ x0 x1 = some r → Ok 202 x0 0 → ∀ (H : Heap) (locs : List Loc) (ls : Array Slot), S2 g s σ R L H locs → lv_has ls 3 [(0, .ref (ga g x0)), (1, .int x1)] → W p l e (rmd 2 0 0) s m args below meth c H locs 0 0 (MQ below (Qg g 202 (PV R L r)) args s 0 0 (gA g)) (F0 m 12 ls []) := by
  have hx := C.1
  have hb := C.2.1
  intro n
  induction n with
  | zero =>
    intro σ x0 x1 h
    cases (show (none : Option (Unit × SI)) = some r from h)
  | succ n ih =>
    intro σ x0 x1 h hx0 H locs ls S hl
    rw [f_X0_measureWindow_12] at h
    refine lv_iload_n hx hb dX0_measureWindow_12 rfl (lv_at hl 1 rfl) ?_
    refine lv_aload_n hx hb dX0_measureWindow_13 rfl (lv_at hl 0 rfl) ?_
    refine x_getI C S KX0 hx0 7 (by decide) rfl rfl fl_RX0_24 dX0_measureWindow_14 ?_
    refine lv_icmp_ge (tgt := 81) hx hb dX0_measureWindow_17 (by decide) (fun c3 => ?_) (fun c3 => ?_)
    · have h := it_p c3 h
      exact x_vret C S hr h dX0_measureWindow_81
    · have h := it_n c3 h
      refine lv_aload_n hx hb dX0_measureWindow_20 rfl (lv_at hl 0 rfl) ?_
      refine lv_aload_n hx hb dX0_measureWindow_21 rfl (lv_at hl 0 rfl) ?_
      have hR4 : Ok 202 (R x0 1) 10012 := hSh x0 0 1 10012 hx0.1 rfl
      refine x_getR C S KX0 hx0 1 (by decide) rfl rfl fl_RX0_15 hR4 dX0_measureWindow_22 ?_
      refine lv_iload_n hx hb dX0_measureWindow_25 rfl (lv_at hl 1 rfl) ?_
      obtain ⟨hi5, h⟩ := ck_el h
      refine x_iald (len := 12) C S (by decide) hR4 hi5 dX0_measureWindow_26 ?_
      obtain ⟨a6, σ6, hc6, h⟩ := bd_el h
      refine x_callVI C S KX0 hx0 (ok_X0_sumFromDelay (L := L) hc6 hSh hx0) ⟨cd_X0_sumFromDelay, ni_RX0, ml_RX0_43, in_X0_sumFromDelay, sl_X0_sumFromDelay⟩ ⟨by decide, by decide⟩ rfl (rm_ok (by decide) (by decide)) hl.1 rfl (Nat.le_of_ble_eq_true rfl) ⟨by decide, by decide⟩ dX0_measureWindow_27 (fun H locs S => ?_)
      refine lv_istore_n (lv' := [(2, .int a6), (0, .ref (ga g x0)), (1, .int x1)]) hx hb dX0_measureWindow_30 rfl hl (by decide) rfl (fun ls hl => ?_)
      refine lv_iload_n hx hb dX0_measureWindow_31 rfl (lv_at hl 0 rfl) ?_
      refine lv_aload_n hx hb dX0_measureWindow_32 rfl (lv_at hl 1 rfl) ?_
      refine x_getI C S KX0 hx0 8 (by decide) rfl rfl fl_RX0_37 dX0_measureWindow_33 ?_
      refine lv_icmp_gt (tgt := 60) hx hb dX0_measureWindow_36 (by decide) (fun c7 => ?_) (fun c7 => ?_)
      · have h := it_p c7 h
        exact w_X0_measureWindow_60 C hr hSh ih σ6 x0 x1 a6 h hx0 H locs ls S (lv_sub hl [1, 2, 0] rfl)
      · have h := it_n c7 h
        refine lv_iload_n hx hb dX0_measureWindow_39 rfl (lv_at hl 0 rfl) ?_
        refine lv_aload_n hx hb dX0_measureWindow_40 rfl (lv_at hl 1 rfl) ?_
        refine x_getI C S KX0 hx0 8 (by decide) rfl rfl fl_RX0_37 dX0_measureWindow_41 ?_
        refine lv_icmp_ne (tgt := 75) hx hb dX0_measureWindow_44 (by decide) (fun c12 => ?_) (fun c12 => ?_)
        · have h := it_n c12 h
          exact w_X0_measureWindow_75 C hr hSh ih σ6 x0 x1 h hx0 H locs ls S (lv_sub hl [1, 2] rfl)
        · have h := it_p c12 h
          refine lv_aload_n hx hb dX0_measureWindow_47 rfl (lv_at hl 1 rfl) ?_
          have hR13 : Ok 202 (R x0 1) 10012 := hSh x0 0 1 10012 hx0.1 rfl
          refine x_getR C S KX0 hx0 1 (by decide) rfl rfl fl_RX0_15 hR13 dX0_measureWindow_48 ?_
          refine lv_iload_n hx hb dX0_measureWindow_51 rfl (lv_at hl 2 rfl) ?_
          obtain ⟨hi14, h⟩ := ck_el h
          refine x_iald (len := 12) C S (by decide) hR13 hi14 dX0_measureWindow_52 ?_
          refine lv_aload_n hx hb dX0_measureWindow_53 rfl (lv_at hl 1 rfl) ?_
          refine x_getI C S KX0 hx0 9 (by decide) rfl rfl fl_RX0_40 dX0_measureWindow_54 ?_
          refine lv_icmp_ge (tgt := 75) hx hb dX0_measureWindow_57 (by decide) (fun c15 => ?_) (fun c15 => ?_)
          · have h := it_p c15 h
            exact w_X0_measureWindow_75 C hr hSh ih σ6 x0 x1 h hx0 H locs ls S (lv_sub hl [1, 2] rfl)
          · have h := it_n c15 h
            exact w_X0_measureWindow_60 C hr hSh ih σ6 x0 x1 a6 h hx0 H locs ls S (lv_sub hl [1, 2, 0] rfl)
set_option maxHeartbeats 4000000 in
set_option maxRecDepth 100000 in
theorem ok_X0_measureWindow {l : Launch} {g : GL} {R : Nat → Nat → Nat} {L : Nat → Nat → Int64} {N : Nat} {σ : SI} {x0 : Nat} {r : (Unit × SI)} (h : f_X0_measureWindow N R σ x0 = some r) (hSh : ShR R) (hx0 : Ok 202 x0 0) : Ct l g 2 yX0_measureWindow cX0_measureWindow 3 none 202 202 0 0 [.ref (ga g x0)] (mkS σ R L) (PV R L r) := by
  refine Met.ofW (cc := cX0_measureWindow) (maxL := 3) (ret := none) (by decide) rfl ?_
  intro p e s m args below meth c s₁ B hml hv
  obtain ⟨rfl, hE, hLo, hWd⟩ := hv
  have hr : meth.sig.returnType = none := B.returns
  have C : Cx l g p s m meth c cX0_measureWindow 3 RX0 := ⟨B.exec, B.bytes, hml, findClass_of_methodNamed B.named, hE, hLo, B.notSynchronized⟩
  have S : S2 g s σ R L s.heap [] := ⟨hWd, va_S.rf⟩
  have hx := C.1
  have hb := C.2.1
  have hl := lv_entry ([.ref (ga g x0)]) (n := 3) (Nat.le_of_ble_eq_true rfl)
  rw [lg_entry_eq]
  generalize (lg_sl ([.ref (ga g x0)]) ++ List.replicate (3 - (lg_sl ([.ref (ga g x0)])).length) Slot.unset).toArray = ls at hl ⊢
  have hl : lv_has ls 3 [(0, .ref (ga g x0))] := hl
  generalize hH : s.heap = H at S ⊢
  generalize hlc : ([] : List Loc) = locs at S ⊢
  rw [f_X0_measureWindow] at h
  refine lv_aload_n hx hb dX0_measureWindow_0 rfl (lv_at hl 0 rfl) ?_
  refine lv_iconst (v := (0 : Int32)) hx hb dX0_measureWindow_1 (by decide) ?_
  obtain ⟨σ1, hs1, h⟩ := sq_el h
  refine x_putI C S KX0 hx0 8 (by decide) rfl rfl rfl ⟨rfl, rfl⟩ fl_RX0_37 dX0_measureWindow_2 hs1 (fun H locs S => ?_)
  refine lv_aload_n hx hb dX0_measureWindow_5 rfl (lv_at hl 0 rfl) ?_
  refine lv_iconst (v := (0 : Int32)) hx hb dX0_measureWindow_6 (by decide) ?_
  obtain ⟨σ2, hs2, h⟩ := sq_el h
  refine x_putI C S KX0 hx0 9 (by decide) rfl rfl rfl ⟨rfl, rfl⟩ fl_RX0_40 dX0_measureWindow_7 hs2 (fun H locs S => ?_)
  refine lv_iconst (v := (0 : Int32)) hx hb dX0_measureWindow_10 (by decide) ?_
  refine lv_istore_n (lv' := [(1, .int (0 : Int32)), (0, .ref (ga g x0))]) hx hb dX0_measureWindow_11 rfl hl (by decide) rfl (fun ls hl => ?_)
  exact w_X0_measureWindow_12 C hr hSh N σ2 x0 (0 : Int32) h hx0 H locs ls S (lv_sub hl [1, 0] rfl)
theorem dX0_shakes_0 : decode cX0_shakes 0 = .ok (.sipush 1000, 3) := by decide +kernel
theorem dX0_shakes_3 : decode cX0_shakes 3 = .ok (.iload_n 2, 1) := by decide +kernel
theorem dX0_shakes_4 : decode cX0_shakes 4 = .ok (.imul, 1) := by decide +kernel
theorem dX0_shakes_5 : decode cX0_shakes 5 = .ok (.aload_n 0, 1) := by decide +kernel
theorem dX0_shakes_6 : decode cX0_shakes 6 = .ok (.getfield 18, 3) := by decide +kernel
theorem dX0_shakes_9 : decode cX0_shakes 9 = .ok (.iload_n 1, 1) := by decide +kernel
theorem dX0_shakes_10 : decode cX0_shakes 10 = .ok (.iaload, 1) := by decide +kernel
theorem dX0_shakes_11 : decode cX0_shakes 11 = .ok (.iconst 1, 1) := by decide +kernel
theorem dX0_shakes_12 : decode cX0_shakes 12 = .ok (.iadd, 1) := by decide +kernel
theorem dX0_shakes_13 : decode cX0_shakes 13 = .ok (.invokestatic 47, 3) := by decide +kernel
theorem dX0_shakes_16 : decode cX0_shakes 16 = .ok (.ireturn, 1) := by decide +kernel
def f_X0_shakes (N : Nat) (R : Nat → Nat → Nat) (σ : SI) (x0 : Nat) (x1 : Int32) (x2 : Int32) : Option (Int32 × SI) := ck x1 8 (bd (f_X11_quotient N R σ ((1000 : Int32) * x2) ((σ (R x0 2) x1.toNatClampNeg) + (1 : Int32))) (fun a3 σ3 => some (a3, σ3)))
set_option maxHeartbeats 4000000 in
set_option maxRecDepth 100000 in
theorem ok_X0_shakes {l : Launch} {g : GL} {R : Nat → Nat → Nat} {L : Nat → Nat → Int64} {N : Nat} {σ : SI} {x0 : Nat} {x1 : Int32} {x2 : Int32} {r : (Int32 × SI)} (h : f_X0_shakes N R σ x0 x1 x2 = some r) (hSh : ShR R) (hx0 : Ok 202 x0 0) : Ct l g 2 yX0_shakes cX0_shakes 3 (some .int) 202 202 0 0 [.ref (ga g x0), .int x1, .int x2] (mkS σ R L) (PI R L r) := by
  refine Met.ofW (cc := cX0_shakes) (maxL := 3) (ret := (some .int)) (by decide) rfl ?_
  intro p e s m args below meth c s₁ B hml hv
  obtain ⟨rfl, hE, hLo, hWd⟩ := hv
  have hr : meth.sig.returnType = (some .int) := B.returns
  have C : Cx l g p s m meth c cX0_shakes 3 RX0 := ⟨B.exec, B.bytes, hml, findClass_of_methodNamed B.named, hE, hLo, B.notSynchronized⟩
  have S : S2 g s σ R L s.heap [] := ⟨hWd, va_S.rf⟩
  have hx := C.1
  have hb := C.2.1
  have hl := lv_entry ([.ref (ga g x0), .int x1, .int x2]) (n := 3) (Nat.le_of_ble_eq_true rfl)
  rw [lg_entry_eq]
  generalize (lg_sl ([.ref (ga g x0), .int x1, .int x2]) ++ List.replicate (3 - (lg_sl ([.ref (ga g x0), .int x1, .int x2])).length) Slot.unset).toArray = ls at hl ⊢
  have hl : lv_has ls 3 [(0, .ref (ga g x0)), (1, .int x1), (2, .int x2)] := hl
  generalize hH : s.heap = H at S ⊢
  generalize hlc : ([] : List Loc) = locs at S ⊢
  rw [f_X0_shakes] at h
  refine lv_sipush (v := (1000 : Int32)) hx hb dX0_shakes_0 (by decide) ?_
  refine lv_iload_n hx hb dX0_shakes_3 rfl (lv_at hl 2 rfl) ?_
  refine lv_imul hx hb dX0_shakes_4 ?_
  refine lv_aload_n hx hb dX0_shakes_5 rfl (lv_at hl 0 rfl) ?_
  have hR1 : Ok 202 (R x0 2) 10008 := hSh x0 0 2 10008 hx0.1 rfl
  refine x_getR C S KX0 hx0 2 (by decide) rfl rfl fl_RX0_18 hR1 dX0_shakes_6 ?_
  refine lv_iload_n hx hb dX0_shakes_9 rfl (lv_at hl 1 rfl) ?_
  obtain ⟨hi2, h⟩ := ck_el h
  refine x_iald (len := 8) C S (by decide) hR1 hi2 dX0_shakes_10 ?_
  refine lv_iconst (v := (1 : Int32)) hx hb dX0_shakes_11 (by decide) ?_
  refine lv_iadd hx hb dX0_shakes_12 ?_
  obtain ⟨a3, σ3, hc3, h⟩ := bd_el h
  refine x_callNI C S (ok_X11_quotient (L := L) hc3 hSh) ⟨cd_X11_quotient, ni_RX11, mn_RX0_47, st_X11_quotient⟩ ⟨by decide, by decide⟩ rfl (rm_ok (by decide) (by decide)) hl.1 rfl (Nat.le_of_ble_eq_true rfl) ⟨by decide, by decide⟩ dX0_shakes_13 (fun H locs S => ?_)
  exact x_iret C S hr h dX0_shakes_16
theorem dX0_closesRoad_0 : decode cX0_closesRoad 0 = .ok (.aload_n 0, 1) := by decide +kernel
theorem dX0_closesRoad_1 : decode cX0_closesRoad 1 = .ok (.getfield 50, 3) := by decide +kernel
theorem dX0_closesRoad_4 : decode cX0_closesRoad 4 = .ok (.iload_n 1, 1) := by decide +kernel
theorem dX0_closesRoad_5 : decode cX0_closesRoad 5 = .ok (.ishr, 1) := by decide +kernel
theorem dX0_closesRoad_6 : decode cX0_closesRoad 6 = .ok (.iconst 1, 1) := by decide +kernel
theorem dX0_closesRoad_7 : decode cX0_closesRoad 7 = .ok (.iand, 1) := by decide +kernel
theorem dX0_closesRoad_8 : decode cX0_closesRoad 8 = .ok (.ifCond .eq 7, 3) := by decide +kernel
theorem dX0_closesRoad_11 : decode cX0_closesRoad 11 = .ok (.iconst 1, 1) := by decide +kernel
theorem dX0_closesRoad_12 : decode cX0_closesRoad 12 = .ok (.goto 4, 3) := by decide +kernel
theorem dX0_closesRoad_15 : decode cX0_closesRoad 15 = .ok (.iconst 0, 1) := by decide +kernel
theorem dX0_closesRoad_16 : decode cX0_closesRoad 16 = .ok (.ireturn, 1) := by decide +kernel
def f_X0_closesRoad (N : Nat) (R : Nat → Nat → Nat) (σ : SI) (x0 : Nat) (x1 : Int32) : Option (Int32 × SI) := if (((σ x0 11) >>> (x1 &&& 31)) &&& (1 : Int32)) = 0 then (some ((0 : Int32), σ)) else (some ((1 : Int32), σ))
set_option maxHeartbeats 4000000 in
set_option maxRecDepth 100000 in
theorem ok_X0_closesRoad {l : Launch} {g : GL} {R : Nat → Nat → Nat} {L : Nat → Nat → Int64} {N : Nat} {σ : SI} {x0 : Nat} {x1 : Int32} {r : (Int32 × SI)} (h : f_X0_closesRoad N R σ x0 x1 = some r) (hSh : ShR R) (hx0 : Ok 202 x0 0) : Ct l g 1 yX0_closesRoad cX0_closesRoad 2 (some .boolean) 202 202 0 0 [.ref (ga g x0), .int x1] (mkS σ R L) (PI R L r) := by
  refine Met.ofW (cc := cX0_closesRoad) (maxL := 2) (ret := (some .boolean)) (by decide) rfl ?_
  intro p e s m args below meth c s₁ B hml hv
  obtain ⟨rfl, hE, hLo, hWd⟩ := hv
  have hr : meth.sig.returnType = (some .boolean) := B.returns
  have C : Cx l g p s m meth c cX0_closesRoad 2 RX0 := ⟨B.exec, B.bytes, hml, findClass_of_methodNamed B.named, hE, hLo, B.notSynchronized⟩
  have S : S2 g s σ R L s.heap [] := ⟨hWd, va_S.rf⟩
  have hx := C.1
  have hb := C.2.1
  have hl := lv_entry ([.ref (ga g x0), .int x1]) (n := 2) (Nat.le_of_ble_eq_true rfl)
  rw [lg_entry_eq]
  generalize (lg_sl ([.ref (ga g x0), .int x1]) ++ List.replicate (2 - (lg_sl ([.ref (ga g x0), .int x1])).length) Slot.unset).toArray = ls at hl ⊢
  have hl : lv_has ls 2 [(0, .ref (ga g x0)), (1, .int x1)] := hl
  generalize hH : s.heap = H at S ⊢
  generalize hlc : ([] : List Loc) = locs at S ⊢
  rw [f_X0_closesRoad] at h
  refine lv_aload_n hx hb dX0_closesRoad_0 rfl (lv_at hl 0 rfl) ?_
  refine x_getI C S KX0 hx0 11 (by decide) rfl rfl fl_RX0_50 dX0_closesRoad_1 ?_
  refine lv_iload_n hx hb dX0_closesRoad_4 rfl (lv_at hl 1 rfl) ?_
  refine lv_ishr hx hb dX0_closesRoad_5 ?_
  refine lv_iconst (v := (1 : Int32)) hx hb dX0_closesRoad_6 (by decide) ?_
  refine lv_iand hx hb dX0_closesRoad_7 ?_
  refine lv_if_eq (tgt := 15) hx hb dX0_closesRoad_8 (by decide) (fun c1 => ?_) (fun c1 => ?_)
  · have h := it_p c1 h
    refine lv_iconst (v := (0 : Int32)) hx hb dX0_closesRoad_15 (by decide) ?_
    exact x_zret C S hr (by decide) h dX0_closesRoad_16
  · have h := it_n c1 h
    refine lv_iconst (v := (1 : Int32)) hx hb dX0_closesRoad_11 (by decide) ?_
    refine lv_goto (tgt := 16) hx hb dX0_closesRoad_12 (by decide) ?_
    exact x_zret C S hr (by decide) h dX0_closesRoad_16
theorem dX2_clear_0 : decode cX2_clear 0 = .ok (.aload_n 0, 1) := by decide +kernel
theorem dX2_clear_1 : decode cX2_clear 1 = .ok (.iconst 0, 1) := by decide +kernel
theorem dX2_clear_2 : decode cX2_clear 2 = .ok (.putfield 16, 3) := by decide +kernel
theorem dX2_clear_5 : decode cX2_clear 5 = .ok (.return_, 1) := by decide +kernel
def f_X2_clear (N : Nat) (R : Nat → Nat → Nat) (σ : SI) (x0 : Nat) : Option (Unit × SI) := sq (up σ x0 2 (0 : Int32)) (fun σ1 => some ((), σ1))
set_option maxHeartbeats 4000000 in
set_option maxRecDepth 100000 in
theorem ok_X2_clear {l : Launch} {g : GL} {R : Nat → Nat → Nat} {L : Nat → Nat → Int64} {N : Nat} {σ : SI} {x0 : Nat} {r : (Unit × SI)} (h : f_X2_clear N R σ x0 = some r) (hSh : ShR R) (hx0 : Ok 202 x0 2) : Ct l g 1 yX2_clear cX2_clear 1 none 202 202 0 0 [.ref (ga g x0)] (mkS σ R L) (PV R L r) := by
  refine Met.ofW (cc := cX2_clear) (maxL := 1) (ret := none) (by decide) rfl ?_
  intro p e s m args below meth c s₁ B hml hv
  obtain ⟨rfl, hE, hLo, hWd⟩ := hv
  have hr : meth.sig.returnType = none := B.returns
  have C : Cx l g p s m meth c cX2_clear 1 RX2 := ⟨B.exec, B.bytes, hml, findClass_of_methodNamed B.named, hE, hLo, B.notSynchronized⟩
  have S : S2 g s σ R L s.heap [] := ⟨hWd, va_S.rf⟩
  have hx := C.1
  have hb := C.2.1
  have hl := lv_entry ([.ref (ga g x0)]) (n := 1) (Nat.le_of_ble_eq_true rfl)
  rw [lg_entry_eq]
  generalize (lg_sl ([.ref (ga g x0)]) ++ List.replicate (1 - (lg_sl ([.ref (ga g x0)])).length) Slot.unset).toArray = ls at hl ⊢
  have hl : lv_has ls 1 [(0, .ref (ga g x0))] := hl
  generalize hH : s.heap = H at S ⊢
  generalize hlc : ([] : List Loc) = locs at S ⊢
  rw [f_X2_clear] at h
  refine lv_aload_n hx hb dX2_clear_0 rfl (lv_at hl 0 rfl) ?_
  refine lv_iconst (v := (0 : Int32)) hx hb dX2_clear_1 (by decide) ?_
  obtain ⟨σ1, hs1, h⟩ := sq_el h
  refine x_putI C S KX2 hx0 2 (by decide) rfl rfl rfl ⟨rfl, rfl⟩ fl_RX2_16 dX2_clear_2 hs1 (fun H locs S => ?_)
  exact x_vret C S hr h dX2_clear_5
theorem dX4_addWindow_0 : decode cX4_addWindow 0 = .ok (.aload_n 0, 1) := by decide +kernel
theorem dX4_addWindow_1 : decode cX4_addWindow 1 = .ok (.getfield 18, 3) := by decide +kernel
theorem dX4_addWindow_4 : decode cX4_addWindow 4 = .ok (.iconst 4, 1) := by decide +kernel
theorem dX4_addWindow_5 : decode cX4_addWindow 5 = .ok (.if_icmp .ge 33, 3) := by decide +kernel
theorem dX4_addWindow_8 : decode cX4_addWindow 8 = .ok (.aload_n 0, 1) := by decide +kernel
theorem dX4_addWindow_9 : decode cX4_addWindow 9 = .ok (.getfield 9, 3) := by decide +kernel
theorem dX4_addWindow_12 : decode cX4_addWindow 12 = .ok (.aload_n 0, 1) := by decide +kernel
theorem dX4_addWindow_13 : decode cX4_addWindow 13 = .ok (.getfield 18, 3) := by decide +kernel
theorem dX4_addWindow_16 : decode cX4_addWindow 16 = .ok (.iload_n 1, 1) := by decide +kernel
theorem dX4_addWindow_17 : decode cX4_addWindow 17 = .ok (.iastore, 1) := by decide +kernel
theorem dX4_addWindow_18 : decode cX4_addWindow 18 = .ok (.aload_n 0, 1) := by decide +kernel
theorem dX4_addWindow_19 : decode cX4_addWindow 19 = .ok (.getfield 15, 3) := by decide +kernel
theorem dX4_addWindow_22 : decode cX4_addWindow 22 = .ok (.aload_n 0, 1) := by decide +kernel
theorem dX4_addWindow_23 : decode cX4_addWindow 23 = .ok (.getfield 18, 3) := by decide +kernel
theorem dX4_addWindow_26 : decode cX4_addWindow 26 = .ok (.iload_n 2, 1) := by decide +kernel
theorem dX4_addWindow_27 : decode cX4_addWindow 27 = .ok (.iastore, 1) := by decide +kernel
theorem dX4_addWindow_28 : decode cX4_addWindow 28 = .ok (.aload_n 0, 1) := by decide +kernel
theorem dX4_addWindow_29 : decode cX4_addWindow 29 = .ok (.dup, 1) := by decide +kernel
theorem dX4_addWindow_30 : decode cX4_addWindow 30 = .ok (.getfield 18, 3) := by decide +kernel
theorem dX4_addWindow_33 : decode cX4_addWindow 33 = .ok (.iconst 1, 1) := by decide +kernel
theorem dX4_addWindow_34 : decode cX4_addWindow 34 = .ok (.iadd, 1) := by decide +kernel
theorem dX4_addWindow_35 : decode cX4_addWindow 35 = .ok (.putfield 18, 3) := by decide +kernel
theorem dX4_addWindow_38 : decode cX4_addWindow 38 = .ok (.return_, 1) := by decide +kernel
def f_X4_addWindow (N : Nat) (R : Nat → Nat → Nat) (σ : SI) (x0 : Nat) (x1 : Int32) (x2 : Int32) : Option (Unit × SI) := if (4 : Int32) ≤ (σ x0 5) then (some ((), σ)) else (ck (σ x0 5) 4 (sq (up σ (R x0 0) (σ x0 5).toNatClampNeg x1) (fun σ4 => ck (σ4 x0 5) 4 (sq (up σ4 (R x0 1) (σ4 x0 5).toNatClampNeg x2) (fun σ7 => sq (up σ7 x0 5 ((σ7 x0 5) + (1 : Int32))) (fun σ8 => some ((), σ8)))))))
set_option maxHeartbeats 4000000 in
set_option maxRecDepth 100000 in
theorem ok_X4_addWindow {l : Launch} {g : GL} {R : Nat → Nat → Nat} {L : Nat → Nat → Int64} {N : Nat} {σ : SI} {x0 : Nat} {x1 : Int32} {x2 : Int32} {r : (Unit × SI)} (h : f_X4_addWindow N R σ x0 x1 x2 = some r) (hSh : ShR R) (hx0 : Ok 202 x0 4) : Ct l g 1 yX4_addWindow cX4_addWindow 3 none 202 202 0 0 [.ref (ga g x0), .int x1, .int x2] (mkS σ R L) (PV R L r) := by
  refine Met.ofW (cc := cX4_addWindow) (maxL := 3) (ret := none) (by decide) rfl ?_
  intro p e s m args below meth c s₁ B hml hv
  obtain ⟨rfl, hE, hLo, hWd⟩ := hv
  have hr : meth.sig.returnType = none := B.returns
  have C : Cx l g p s m meth c cX4_addWindow 3 RX4 := ⟨B.exec, B.bytes, hml, findClass_of_methodNamed B.named, hE, hLo, B.notSynchronized⟩
  have S : S2 g s σ R L s.heap [] := ⟨hWd, va_S.rf⟩
  have hx := C.1
  have hb := C.2.1
  have hl := lv_entry ([.ref (ga g x0), .int x1, .int x2]) (n := 3) (Nat.le_of_ble_eq_true rfl)
  rw [lg_entry_eq]
  generalize (lg_sl ([.ref (ga g x0), .int x1, .int x2]) ++ List.replicate (3 - (lg_sl ([.ref (ga g x0), .int x1, .int x2])).length) Slot.unset).toArray = ls at hl ⊢
  have hl : lv_has ls 3 [(0, .ref (ga g x0)), (1, .int x1), (2, .int x2)] := hl
  generalize hH : s.heap = H at S ⊢
  generalize hlc : ([] : List Loc) = locs at S ⊢
  rw [f_X4_addWindow] at h
  refine lv_aload_n hx hb dX4_addWindow_0 rfl (lv_at hl 0 rfl) ?_
  refine x_getI C S KX4 hx0 5 (by decide) rfl rfl fl_RX4_18 dX4_addWindow_1 ?_
  refine lv_iconst (v := (4 : Int32)) hx hb dX4_addWindow_4 (by decide) ?_
  refine lv_icmp_ge (tgt := 38) hx hb dX4_addWindow_5 (by decide) (fun c1 => ?_) (fun c1 => ?_)
  · have h := it_p c1 h
    exact x_vret C S hr h dX4_addWindow_38
  · have h := it_n c1 h
    refine lv_aload_n hx hb dX4_addWindow_8 rfl (lv_at hl 0 rfl) ?_
    have hR2 : Ok 202 (R x0 0) 10004 := hSh x0 4 0 10004 hx0.1 rfl
    refine x_getR C S KX4 hx0 0 (by decide) rfl rfl fl_RX4_9 hR2 dX4_addWindow_9 ?_
    refine lv_aload_n hx hb dX4_addWindow_12 rfl (lv_at hl 0 rfl) ?_
    refine x_getI C S KX4 hx0 5 (by decide) rfl rfl fl_RX4_18 dX4_addWindow_13 ?_
    refine lv_iload_n hx hb dX4_addWindow_16 rfl (lv_at hl 1 rfl) ?_
    obtain ⟨hi3, h⟩ := ck_el h
    obtain ⟨σ4, hs4, h⟩ := sq_el h
    refine x_iast (len := 4) C S (by decide) hR2 hi3 dX4_addWindow_17 hs4 (fun H locs S => ?_)
    refine lv_aload_n hx hb dX4_addWindow_18 rfl (lv_at hl 0 rfl) ?_
    have hR5 : Ok 202 (R x0 1) 10004 := hSh x0 4 1 10004 hx0.1 rfl
    refine x_getR C S KX4 hx0 1 (by decide) rfl rfl fl_RX4_15 hR5 dX4_addWindow_19 ?_
    refine lv_aload_n hx hb dX4_addWindow_22 rfl (lv_at hl 0 rfl) ?_
    refine x_getI C S KX4 hx0 5 (by decide) rfl rfl fl_RX4_18 dX4_addWindow_23 ?_
    refine lv_iload_n hx hb dX4_addWindow_26 rfl (lv_at hl 2 rfl) ?_
    obtain ⟨hi6, h⟩ := ck_el h
    obtain ⟨σ7, hs7, h⟩ := sq_el h
    refine x_iast (len := 4) C S (by decide) hR5 hi6 dX4_addWindow_27 hs7 (fun H locs S => ?_)
    refine lv_aload_n hx hb dX4_addWindow_28 rfl (lv_at hl 0 rfl) ?_
    refine lv_dup hx hb dX4_addWindow_29 rfl ?_
    refine x_getI C S KX4 hx0 5 (by decide) rfl rfl fl_RX4_18 dX4_addWindow_30 ?_
    refine lv_iconst (v := (1 : Int32)) hx hb dX4_addWindow_33 (by decide) ?_
    refine lv_iadd hx hb dX4_addWindow_34 ?_
    obtain ⟨σ8, hs8, h⟩ := sq_el h
    refine x_putI C S KX4 hx0 5 (by decide) rfl rfl rfl ⟨rfl, rfl⟩ fl_RX4_18 dX4_addWindow_35 hs8 (fun H locs S => ?_)
    exact x_vret C S hr h dX4_addWindow_38
theorem dX4_quietAt_0 : decode cX4_quietAt 0 = .ok (.iconst 0, 1) := by decide +kernel
theorem dX4_quietAt_1 : decode cX4_quietAt 1 = .ok (.istore_n 2, 1) := by decide +kernel
theorem dX4_quietAt_2 : decode cX4_quietAt 2 = .ok (.iload_n 2, 1) := by decide +kernel
theorem dX4_quietAt_3 : decode cX4_quietAt 3 = .ok (.aload_n 0, 1) := by decide +kernel
theorem dX4_quietAt_4 : decode cX4_quietAt 4 = .ok (.getfield 18, 3) := by decide +kernel
theorem dX4_quietAt_7 : decode cX4_quietAt 7 = .ok (.if_icmp .ge 31, 3) := by decide +kernel
theorem dX4_quietAt_10 : decode cX4_quietAt 10 = .ok (.iload_n 1, 1) := by decide +kernel
theorem dX4_quietAt_11 : decode cX4_quietAt 11 = .ok (.aload_n 0, 1) := by decide +kernel
theorem dX4_quietAt_12 : decode cX4_quietAt 12 = .ok (.getfield 9, 3) := by decide +kernel
theorem dX4_quietAt_15 : decode cX4_quietAt 15 = .ok (.iload_n 2, 1) := by decide +kernel
theorem dX4_quietAt_16 : decode cX4_quietAt 16 = .ok (.iaload, 1) := by decide +kernel
theorem dX4_quietAt_17 : decode cX4_quietAt 17 = .ok (.if_icmp .lt 15, 3) := by decide +kernel
theorem dX4_quietAt_20 : decode cX4_quietAt 20 = .ok (.iload_n 1, 1) := by decide +kernel
theorem dX4_quietAt_21 : decode cX4_quietAt 21 = .ok (.aload_n 0, 1) := by decide +kernel
theorem dX4_quietAt_22 : decode cX4_quietAt 22 = .ok (.getfield 15, 3) := by decide +kernel
theorem dX4_quietAt_25 : decode cX4_quietAt 25 = .ok (.iload_n 2, 1) := by decide +kernel
theorem dX4_quietAt_26 : decode cX4_quietAt 26 = .ok (.iaload, 1) := by decide +kernel
theorem dX4_quietAt_27 : decode cX4_quietAt 27 = .ok (.if_icmp .ge 5, 3) := by decide +kernel
theorem dX4_quietAt_30 : decode cX4_quietAt 30 = .ok (.iconst 1, 1) := by decide +kernel
theorem dX4_quietAt_31 : decode cX4_quietAt 31 = .ok (.ireturn, 1) := by decide +kernel
theorem dX4_quietAt_32 : decode cX4_quietAt 32 = .ok (.iinc 2 1, 3) := by decide +kernel
theorem dX4_quietAt_35 : decode cX4_quietAt 35 = .ok (.goto (-33), 3) := by decide +kernel
theorem dX4_quietAt_38 : decode cX4_quietAt 38 = .ok (.iconst 0, 1) := by decide +kernel
theorem dX4_quietAt_39 : decode cX4_quietAt 39 = .ok (.ireturn, 1) := by decide +kernel
def f_X4_quietAt_32 (N : Nat) (R : Nat → Nat → Nat) (k2 : SI → Nat → Int32 → Int32 → Option (Int32 × SI)) (σ : SI) (x0 : Nat) (x1 : Int32) (x2 : Int32) : Option (Int32 × SI) := k2 σ x0 x1 (x2 + 1)
def f_X4_quietAt_2 (N : Nat) (R : Nat → Nat → Nat) : Nat → SI → Nat → Int32 → Int32 → Option (Int32 × SI)
  | 0, _, _, _, _ => none
  | n + 1, σ, x0, x1, x2 => if (σ x0 5) ≤ x2 then (some ((0 : Int32), σ)) else (ck x2 4 (if x1 < (σ (R x0 0) x2.toNatClampNeg) then (f_X4_quietAt_32 N R (fun σ x0 x1 x2 => f_X4_quietAt_2 N R n σ x0 x1 x2) σ x0 x1 x2) else (ck x2 4 (if (σ (R x0 1) x2.toNatClampNeg) ≤ x1 then (f_X4_quietAt_32 N R (fun σ x0 x1 x2 => f_X4_quietAt_2 N R n σ x0 x1 x2) σ x0 x1 x2) else (some ((1 : Int32), σ))))))
def f_X4_quietAt (N : Nat) (R : Nat → Nat → Nat) (σ : SI) (x0 : Nat) (x1 : Int32) : Option (Int32 × SI) := f_X4_quietAt_2 N R N σ x0 x1 (0 : Int32)
set_option maxHeartbeats 4000000 in
set_option maxRecDepth 100000 in
theorem w_X4_quietAt_32 {l : Launch} {g : GL} {p : Program} {e : Jvm.Env} {s : State} {m : MethodId} {args : Array Value} {below : List Frame} {meth : Method} {c : Code} {R : Nat → Nat → Nat} {L : Nat → Nat → Int64} {r : (Int32 × SI)} {N : Nat} {k2 : SI → Nat → Int32 → Int32 → Option (Int32 × SI)} (C : Cx l g p s m meth c cX4_quietAt 3 RX4) (hr : meth.sig.returnType = (some .boolean)) (hSh : ShR R) (hk2 : ∀ (σ : SI) (x0 : Nat) (x1 : Int32) (x2 : Int32), k2 σ x0 x1 x2 = some r → Ok 202 x0 4 → ∀ (H : Heap) (locs : List Loc) (ls : Array Slot), S2 g s σ R L H locs → lv_has ls 3 [(0, .ref (ga g x0)), (1, .int x1), (2, .int x2)] → W p l e (rmd 1 0 0) s m args below meth c H locs 0 0 (MQ below (Qg g 202 (PI R L r)) args s 0 0 (gA g)) (F0 m 2 ls [])) : ∀ (σ : SI) (x0 : Nat) (x1 : Int32) (x2 : Int32), f_X4_quietAt_32 N R k2 σ x0 x1 x2 = some r → Ok 202 x0 4 → ∀ (H : Heap) (locs : List Loc) (ls : Array Slot), S2 g s σ R L H locs → lv_has ls 3 [(0, .ref (ga g x0)), (1, .int x1), (2, .int x2)] → W p l e (rmd 1 0 0) s m args below meth c H locs 0 0 (MQ below (Qg g 202 (PI R L r)) args s 0 0 (gA g)) (F0 m 32 ls []) := by
  have hx := C.1
  have hb := C.2.1
  intro σ x0 x1 x2 h hx0 H locs ls S hl
  rw [f_X4_quietAt_32] at h
  refine lv_iinc (v := x2 + 1) (lv' := [(2, .int (x2 + 1)), (0, .ref (ga g x0)), (1, .int x1)]) hx hb dX4_quietAt_32 hl (k := 2) rfl rfl (by decide) rfl (fun ls hl => ?_)
  refine lv_goto (tgt := 2) hx hb dX4_quietAt_35 (by decide) ?_
  exact hk2 σ x0 x1 (x2 + 1) h hx0 H locs ls S (lv_sub hl [1, 2, 0] rfl)
set_option maxHeartbeats 4000000 in
set_option maxRecDepth 100000 in
theorem w_X4_quietAt_2 {l : Launch} {g : GL} {p : Program} {e : Jvm.Env} {s : State} {m : MethodId} {args : Array Value} {below : List Frame} {meth : Method} {c : Code} {R : Nat → Nat → Nat} {L : Nat → Nat → Int64} {r : (Int32 × SI)} {N : Nat} (C : Cx l g p s m meth c cX4_quietAt 3 RX4) (hr : meth.sig.returnType = (some .boolean)) (hSh : ShR R) : ∀ (n : Nat) (σ : SI) (x0 : Nat) (x1 : Int32) (x2 : Int32), f_X4_quietAt_2 N R n σ x0 x1 x2 = some r → Ok 202 x0 4 → ∀ (H : Heap) (locs : List Loc) (ls : Array Slot), S2 g s σ R L H locs → lv_has ls 3 [(0, .ref (ga g x0)), (1, .int x1), (2, .int x2)] → W p l e (rmd 1 0 0) s m args below meth c H locs 0 0 (MQ below (Qg g 202 (PI R L r)) args s 0 0 (gA g)) (F0 m 2 ls []) := by
  have hx := C.1
  have hb := C.2.1
  intro n
  induction n with
  | zero =>
    intro σ x0 x1 x2 h
    cases (show (none : Option (Int32 × SI)) = some r from h)
  | succ n ih =>
    intro σ x0 x1 x2 h hx0 H locs ls S hl
    rw [f_X4_quietAt_2] at h
    refine lv_iload_n hx hb dX4_quietAt_2 rfl (lv_at hl 2 rfl) ?_
    refine lv_aload_n hx hb dX4_quietAt_3 rfl (lv_at hl 0 rfl) ?_
    refine x_getI C S KX4 hx0 5 (by decide) rfl rfl fl_RX4_18 dX4_quietAt_4 ?_
    refine lv_icmp_ge (tgt := 38) hx hb dX4_quietAt_7 (by decide) (fun c1 => ?_) (fun c1 => ?_)
    · have h := it_p c1 h
      refine lv_iconst (v := (0 : Int32)) hx hb dX4_quietAt_38 (by decide) ?_
      exact x_zret C S hr (by decide) h dX4_quietAt_39
    · have h := it_n c1 h
      refine lv_iload_n hx hb dX4_quietAt_10 rfl (lv_at hl 1 rfl) ?_
      refine lv_aload_n hx hb dX4_quietAt_11 rfl (lv_at hl 0 rfl) ?_
      have hR2 : Ok 202 (R x0 0) 10004 := hSh x0 4 0 10004 hx0.1 rfl
      refine x_getR C S KX4 hx0 0 (by decide) rfl rfl fl_RX4_9 hR2 dX4_quietAt_12 ?_
      refine lv_iload_n hx hb dX4_quietAt_15 rfl (lv_at hl 2 rfl) ?_
      obtain ⟨hi3, h⟩ := ck_el h
      refine x_iald (len := 4) C S (by decide) hR2 hi3 dX4_quietAt_16 ?_
      refine lv_icmp_lt (tgt := 32) hx hb dX4_quietAt_17 (by decide) (fun c4 => ?_) (fun c4 => ?_)
      · have h := it_p c4 h
        exact w_X4_quietAt_32 C hr hSh ih σ x0 x1 x2 h hx0 H locs ls S (lv_sub hl [0, 1, 2] rfl)
      · have h := it_n c4 h
        refine lv_iload_n hx hb dX4_quietAt_20 rfl (lv_at hl 1 rfl) ?_
        refine lv_aload_n hx hb dX4_quietAt_21 rfl (lv_at hl 0 rfl) ?_
        have hR5 : Ok 202 (R x0 1) 10004 := hSh x0 4 1 10004 hx0.1 rfl
        refine x_getR C S KX4 hx0 1 (by decide) rfl rfl fl_RX4_15 hR5 dX4_quietAt_22 ?_
        refine lv_iload_n hx hb dX4_quietAt_25 rfl (lv_at hl 2 rfl) ?_
        obtain ⟨hi6, h⟩ := ck_el h
        refine x_iald (len := 4) C S (by decide) hR5 hi6 dX4_quietAt_26 ?_
        refine lv_icmp_ge (tgt := 32) hx hb dX4_quietAt_27 (by decide) (fun c7 => ?_) (fun c7 => ?_)
        · have h := it_p c7 h
          exact w_X4_quietAt_32 C hr hSh ih σ x0 x1 x2 h hx0 H locs ls S (lv_sub hl [0, 1, 2] rfl)
        · have h := it_n c7 h
          refine lv_iconst (v := (1 : Int32)) hx hb dX4_quietAt_30 (by decide) ?_
          exact x_zret C S hr (by decide) h dX4_quietAt_31
set_option maxHeartbeats 4000000 in
set_option maxRecDepth 100000 in
theorem ok_X4_quietAt {l : Launch} {g : GL} {R : Nat → Nat → Nat} {L : Nat → Nat → Int64} {N : Nat} {σ : SI} {x0 : Nat} {x1 : Int32} {r : (Int32 × SI)} (h : f_X4_quietAt N R σ x0 x1 = some r) (hSh : ShR R) (hx0 : Ok 202 x0 4) : Ct l g 1 yX4_quietAt cX4_quietAt 3 (some .boolean) 202 202 0 0 [.ref (ga g x0), .int x1] (mkS σ R L) (PI R L r) := by
  refine Met.ofW (cc := cX4_quietAt) (maxL := 3) (ret := (some .boolean)) (by decide) rfl ?_
  intro p e s m args below meth c s₁ B hml hv
  obtain ⟨rfl, hE, hLo, hWd⟩ := hv
  have hr : meth.sig.returnType = (some .boolean) := B.returns
  have C : Cx l g p s m meth c cX4_quietAt 3 RX4 := ⟨B.exec, B.bytes, hml, findClass_of_methodNamed B.named, hE, hLo, B.notSynchronized⟩
  have S : S2 g s σ R L s.heap [] := ⟨hWd, va_S.rf⟩
  have hx := C.1
  have hb := C.2.1
  have hl := lv_entry ([.ref (ga g x0), .int x1]) (n := 3) (Nat.le_of_ble_eq_true rfl)
  rw [lg_entry_eq]
  generalize (lg_sl ([.ref (ga g x0), .int x1]) ++ List.replicate (3 - (lg_sl ([.ref (ga g x0), .int x1])).length) Slot.unset).toArray = ls at hl ⊢
  have hl : lv_has ls 3 [(0, .ref (ga g x0)), (1, .int x1)] := hl
  generalize hH : s.heap = H at S ⊢
  generalize hlc : ([] : List Loc) = locs at S ⊢
  rw [f_X4_quietAt] at h
  refine lv_iconst (v := (0 : Int32)) hx hb dX4_quietAt_0 (by decide) ?_
  refine lv_istore_n (lv' := [(2, .int (0 : Int32)), (0, .ref (ga g x0)), (1, .int x1)]) hx hb dX4_quietAt_1 rfl hl (by decide) rfl (fun ls hl => ?_)
  exact w_X4_quietAt_2 C hr hSh N σ x0 x1 (0 : Int32) h hx0 H locs ls S (lv_sub hl [1, 2, 0] rfl)
theorem dX6_forget_0 : decode cX6_forget 0 = .ok (.aload_n 0, 1) := by decide +kernel
theorem dX6_forget_1 : decode cX6_forget 1 = .ok (.iconst 0, 1) := by decide +kernel
theorem dX6_forget_2 : decode cX6_forget 2 = .ok (.putfield 21, 3) := by decide +kernel
theorem dX6_forget_5 : decode cX6_forget 5 = .ok (.return_, 1) := by decide +kernel
def f_X6_forget (N : Nat) (R : Nat → Nat → Nat) (σ : SI) (x0 : Nat) : Option (Unit × SI) := sq (up σ x0 5 (0 : Int32)) (fun σ1 => some ((), σ1))
set_option maxHeartbeats 4000000 in
set_option maxRecDepth 100000 in
theorem ok_X6_forget {l : Launch} {g : GL} {R : Nat → Nat → Nat} {L : Nat → Nat → Int64} {N : Nat} {σ : SI} {x0 : Nat} {r : (Unit × SI)} (h : f_X6_forget N R σ x0 = some r) (hSh : ShR R) (hx0 : Ok 202 x0 6) : Ct l g 1 yX6_forget cX6_forget 1 none 202 202 0 0 [.ref (ga g x0)] (mkS σ R L) (PV R L r) := by
  refine Met.ofW (cc := cX6_forget) (maxL := 1) (ret := none) (by decide) rfl ?_
  intro p e s m args below meth c s₁ B hml hv
  obtain ⟨rfl, hE, hLo, hWd⟩ := hv
  have hr : meth.sig.returnType = none := B.returns
  have C : Cx l g p s m meth c cX6_forget 1 RX6 := ⟨B.exec, B.bytes, hml, findClass_of_methodNamed B.named, hE, hLo, B.notSynchronized⟩
  have S : S2 g s σ R L s.heap [] := ⟨hWd, va_S.rf⟩
  have hx := C.1
  have hb := C.2.1
  have hl := lv_entry ([.ref (ga g x0)]) (n := 1) (Nat.le_of_ble_eq_true rfl)
  rw [lg_entry_eq]
  generalize (lg_sl ([.ref (ga g x0)]) ++ List.replicate (1 - (lg_sl ([.ref (ga g x0)])).length) Slot.unset).toArray = ls at hl ⊢
  have hl : lv_has ls 1 [(0, .ref (ga g x0))] := hl
  generalize hH : s.heap = H at S ⊢
  generalize hlc : ([] : List Loc) = locs at S ⊢
  rw [f_X6_forget] at h
  refine lv_aload_n hx hb dX6_forget_0 rfl (lv_at hl 0 rfl) ?_
  refine lv_iconst (v := (0 : Int32)) hx hb dX6_forget_1 (by decide) ?_
  obtain ⟨σ1, hs1, h⟩ := sq_el h
  refine x_putI C S KX6 hx0 5 (by decide) rfl rfl rfl ⟨rfl, rfl⟩ fl_RX6_21 dX6_forget_2 hs1 (fun H locs S => ?_)
  exact x_vret C S hr h dX6_forget_5
theorem dX7_comesWithin_0 : decode cX7_comesWithin 0 = .ok (.iload_n 3, 1) := by decide +kernel
theorem dX7_comesWithin_1 : decode cX7_comesWithin 1 = .ok (.iload_n 3, 1) := by decide +kernel
theorem dX7_comesWithin_2 : decode cX7_comesWithin 2 = .ok (.imul, 1) := by decide +kernel
theorem dX7_comesWithin_3 : decode cX7_comesWithin 3 = .ok (.istore 4, 2) := by decide +kernel
theorem dX7_comesWithin_5 : decode cX7_comesWithin 5 = .ok (.aload_n 0, 1) := by decide +kernel
theorem dX7_comesWithin_6 : decode cX7_comesWithin 6 = .ok (.getfield 7, 3) := by decide +kernel
theorem dX7_comesWithin_9 : decode cX7_comesWithin 9 = .ok (.aload_n 0, 1) := by decide +kernel
theorem dX7_comesWithin_10 : decode cX7_comesWithin 10 = .ok (.getfield 13, 3) := by decide +kernel
theorem dX7_comesWithin_13 : decode cX7_comesWithin 13 = .ok (.isub, 1) := by decide +kernel
theorem dX7_comesWithin_14 : decode cX7_comesWithin 14 = .ok (.istore 5, 2) := by decide +kernel
theorem dX7_comesWithin_16 : decode cX7_comesWithin 16 = .ok (.aload_n 0, 1) := by decide +kernel
theorem dX7_comesWithin_17 : decode cX7_comesWithin 17 = .ok (.getfield 16, 3) := by decide +kernel
theorem dX7_comesWithin_20 : decode cX7_comesWithin 20 = .ok (.aload_n 0, 1) := by decide +kernel
theorem dX7_comesWithin_21 : decode cX7_comesWithin 21 = .ok (.getfield 19, 3) := by decide +kernel
theorem dX7_comesWithin_24 : decode cX7_comesWithin 24 = .ok (.isub, 1) := by decide +kernel
theorem dX7_comesWithin_25 : decode cX7_comesWithin 25 = .ok (.istore 6, 2) := by decide +kernel
theorem dX7_comesWithin_27 : decode cX7_comesWithin 27 = .ok (.iload 5, 2) := by decide +kernel
theorem dX7_comesWithin_29 : decode cX7_comesWithin 29 = .ok (.iload 6, 2) := by decide +kernel
theorem dX7_comesWithin_31 : decode cX7_comesWithin 31 = .ok (.invokestatic 22, 3) := by decide +kernel
theorem dX7_comesWithin_34 : decode cX7_comesWithin 34 = .ok (.istore 7, 2) := by decide +kernel
theorem dX7_comesWithin_36 : decode cX7_comesWithin 36 = .ok (.iload_n 1, 1) := by decide +kernel
theorem dX7_comesWithin_37 : decode cX7_comesWithin 37 = .ok (.aload_n 0, 1) := by decide +kernel
theorem dX7_comesWithin_38 : decode cX7_comesWithin 38 = .ok (.getfield 13, 3) := by decide +kernel
theorem dX7_comesWithin_41 : decode cX7_comesWithin 41 = .ok (.isub, 1) := by decide +kernel
theorem dX7_comesWithin_42 : decode cX7_comesWithin 42 = .ok (.iload 5, 2) := by decide +kernel
theorem dX7_comesWithin_44 : decode cX7_comesWithin 44 = .ok (.imul, 1) := by decide +kernel
theorem dX7_comesWithin_45 : decode cX7_comesWithin 45 = .ok (.iload_n 2, 1) := by decide +kernel
theorem dX7_comesWithin_46 : decode cX7_comesWithin 46 = .ok (.aload_n 0, 1) := by decide +kernel
theorem dX7_comesWithin_47 : decode cX7_comesWithin 47 = .ok (.getfield 19, 3) := by decide +kernel
theorem dX7_comesWithin_50 : decode cX7_comesWithin 50 = .ok (.isub, 1) := by decide +kernel
theorem dX7_comesWithin_51 : decode cX7_comesWithin 51 = .ok (.iload 6, 2) := by decide +kernel
theorem dX7_comesWithin_53 : decode cX7_comesWithin 53 = .ok (.imul, 1) := by decide +kernel
theorem dX7_comesWithin_54 : decode cX7_comesWithin 54 = .ok (.iadd, 1) := by decide +kernel
theorem dX7_comesWithin_55 : decode cX7_comesWithin 55 = .ok (.istore 8, 2) := by decide +kernel
theorem dX7_comesWithin_57 : decode cX7_comesWithin 57 = .ok (.iload 8, 2) := by decide +kernel
theorem dX7_comesWithin_59 : decode cX7_comesWithin 59 = .ok (.ifCond .gt 29, 3) := by decide +kernel
theorem dX7_comesWithin_62 : decode cX7_comesWithin 62 = .ok (.iload_n 1, 1) := by decide +kernel
theorem dX7_comesWithin_63 : decode cX7_comesWithin 63 = .ok (.aload_n 0, 1) := by decide +kernel
theorem dX7_comesWithin_64 : decode cX7_comesWithin 64 = .ok (.getfield 13, 3) := by decide +kernel
theorem dX7_comesWithin_67 : decode cX7_comesWithin 67 = .ok (.isub, 1) := by decide +kernel
theorem dX7_comesWithin_68 : decode cX7_comesWithin 68 = .ok (.iload_n 2, 1) := by decide +kernel
theorem dX7_comesWithin_69 : decode cX7_comesWithin 69 = .ok (.aload_n 0, 1) := by decide +kernel
theorem dX7_comesWithin_70 : decode cX7_comesWithin 70 = .ok (.getfield 19, 3) := by decide +kernel
theorem dX7_comesWithin_73 : decode cX7_comesWithin 73 = .ok (.isub, 1) := by decide +kernel
theorem dX7_comesWithin_74 : decode cX7_comesWithin 74 = .ok (.invokestatic 22, 3) := by decide +kernel
theorem dX7_comesWithin_77 : decode cX7_comesWithin 77 = .ok (.iload 4, 2) := by decide +kernel
theorem dX7_comesWithin_79 : decode cX7_comesWithin 79 = .ok (.if_icmp .gt 7, 3) := by decide +kernel
theorem dX7_comesWithin_82 : decode cX7_comesWithin 82 = .ok (.iconst 1, 1) := by decide +kernel
theorem dX7_comesWithin_83 : decode cX7_comesWithin 83 = .ok (.goto 4, 3) := by decide +kernel
theorem dX7_comesWithin_86 : decode cX7_comesWithin 86 = .ok (.iconst 0, 1) := by decide +kernel
theorem dX7_comesWithin_87 : decode cX7_comesWithin 87 = .ok (.ireturn, 1) := by decide +kernel
theorem dX7_comesWithin_88 : decode cX7_comesWithin 88 = .ok (.iload 8, 2) := by decide +kernel
theorem dX7_comesWithin_90 : decode cX7_comesWithin 90 = .ok (.iload 7, 2) := by decide +kernel
theorem dX7_comesWithin_92 : decode cX7_comesWithin 92 = .ok (.if_icmp .lt 29, 3) := by decide +kernel
theorem dX7_comesWithin_95 : decode cX7_comesWithin 95 = .ok (.iload_n 1, 1) := by decide +kernel
theorem dX7_comesWithin_96 : decode cX7_comesWithin 96 = .ok (.aload_n 0, 1) := by decide +kernel
theorem dX7_comesWithin_97 : decode cX7_comesWithin 97 = .ok (.getfield 7, 3) := by decide +kernel
theorem dX7_comesWithin_100 : decode cX7_comesWithin 100 = .ok (.isub, 1) := by decide +kernel
theorem dX7_comesWithin_101 : decode cX7_comesWithin 101 = .ok (.iload_n 2, 1) := by decide +kernel
theorem dX7_comesWithin_102 : decode cX7_comesWithin 102 = .ok (.aload_n 0, 1) := by decide +kernel
theorem dX7_comesWithin_103 : decode cX7_comesWithin 103 = .ok (.getfield 16, 3) := by decide +kernel
theorem dX7_comesWithin_106 : decode cX7_comesWithin 106 = .ok (.isub, 1) := by decide +kernel
theorem dX7_comesWithin_107 : decode cX7_comesWithin 107 = .ok (.invokestatic 22, 3) := by decide +kernel
theorem dX7_comesWithin_110 : decode cX7_comesWithin 110 = .ok (.iload 4, 2) := by decide +kernel
theorem dX7_comesWithin_112 : decode cX7_comesWithin 112 = .ok (.if_icmp .gt 7, 3) := by decide +kernel
theorem dX7_comesWithin_115 : decode cX7_comesWithin 115 = .ok (.iconst 1, 1) := by decide +kernel
theorem dX7_comesWithin_116 : decode cX7_comesWithin 116 = .ok (.goto 4, 3) := by decide +kernel
theorem dX7_comesWithin_119 : decode cX7_comesWithin 119 = .ok (.iconst 0, 1) := by decide +kernel
theorem dX7_comesWithin_120 : decode cX7_comesWithin 120 = .ok (.ireturn, 1) := by decide +kernel
theorem dX7_comesWithin_121 : decode cX7_comesWithin 121 = .ok (.iload_n 1, 1) := by decide +kernel
theorem dX7_comesWithin_122 : decode cX7_comesWithin 122 = .ok (.aload_n 0, 1) := by decide +kernel
theorem dX7_comesWithin_123 : decode cX7_comesWithin 123 = .ok (.getfield 13, 3) := by decide +kernel
theorem dX7_comesWithin_126 : decode cX7_comesWithin 126 = .ok (.isub, 1) := by decide +kernel
theorem dX7_comesWithin_127 : decode cX7_comesWithin 127 = .ok (.i2l, 1) := by decide +kernel
theorem dX7_comesWithin_128 : decode cX7_comesWithin 128 = .ok (.iload 6, 2) := by decide +kernel
theorem dX7_comesWithin_130 : decode cX7_comesWithin 130 = .ok (.i2l, 1) := by decide +kernel
theorem dX7_comesWithin_131 : decode cX7_comesWithin 131 = .ok (.lmul, 1) := by decide +kernel
theorem dX7_comesWithin_132 : decode cX7_comesWithin 132 = .ok (.iload_n 2, 1) := by decide +kernel
theorem dX7_comesWithin_133 : decode cX7_comesWithin 133 = .ok (.aload_n 0, 1) := by decide +kernel
theorem dX7_comesWithin_134 : decode cX7_comesWithin 134 = .ok (.getfield 19, 3) := by decide +kernel
theorem dX7_comesWithin_137 : decode cX7_comesWithin 137 = .ok (.isub, 1) := by decide +kernel
theorem dX7_comesWithin_138 : decode cX7_comesWithin 138 = .ok (.i2l, 1) := by decide +kernel
theorem dX7_comesWithin_139 : decode cX7_comesWithin 139 = .ok (.iload 5, 2) := by decide +kernel
theorem dX7_comesWithin_141 : decode cX7_comesWithin 141 = .ok (.i2l, 1) := by decide +kernel
theorem dX7_comesWithin_142 : decode cX7_comesWithin 142 = .ok (.lmul, 1) := by decide +kernel
theorem dX7_comesWithin_143 : decode cX7_comesWithin 143 = .ok (.lsub, 1) := by decide +kernel
theorem dX7_comesWithin_144 : decode cX7_comesWithin 144 = .ok (.lstore 9, 2) := by decide +kernel
theorem dX7_comesWithin_146 : decode cX7_comesWithin 146 = .ok (.lload 9, 2) := by decide +kernel
theorem dX7_comesWithin_148 : decode cX7_comesWithin 148 = .ok (.lload 9, 2) := by decide +kernel
theorem dX7_comesWithin_150 : decode cX7_comesWithin 150 = .ok (.lmul, 1) := by decide +kernel
theorem dX7_comesWithin_151 : decode cX7_comesWithin 151 = .ok (.iload 4, 2) := by decide +kernel
theorem dX7_comesWithin_153 : decode cX7_comesWithin 153 = .ok (.i2l, 1) := by decide +kernel
theorem dX7_comesWithin_154 : decode cX7_comesWithin 154 = .ok (.iload 7, 2) := by decide +kernel
theorem dX7_comesWithin_156 : decode cX7_comesWithin 156 = .ok (.i2l, 1) := by decide +kernel
theorem dX7_comesWithin_157 : decode cX7_comesWithin 157 = .ok (.lmul, 1) := by decide +kernel
theorem dX7_comesWithin_158 : decode cX7_comesWithin 158 = .ok (.lcmp, 1) := by decide +kernel
theorem dX7_comesWithin_159 : decode cX7_comesWithin 159 = .ok (.ifCond .gt 7, 3) := by decide +kernel
theorem dX7_comesWithin_162 : decode cX7_comesWithin 162 = .ok (.iconst 1, 1) := by decide +kernel
theorem dX7_comesWithin_163 : decode cX7_comesWithin 163 = .ok (.goto 4, 3) := by decide +kernel
theorem dX7_comesWithin_166 : decode cX7_comesWithin 166 = .ok (.iconst 0, 1) := by decide +kernel
theorem dX7_comesWithin_167 : decode cX7_comesWithin 167 = .ok (.ireturn, 1) := by decide +kernel
def f_X7_comesWithin (N : Nat) (R : Nat → Nat → Nat) (σ : SI) (x0 : Nat) (x1 : Int32) (x2 : Int32) (x3 : Int32) : Option (Int32 × SI) := bd (f_X11_squareSum N R σ ((σ x0 2) - (σ x0 0)) ((σ x0 3) - (σ x0 1))) (fun a1 σ1 => if 0 < (((x1 - (σ1 x0 0)) * ((σ x0 2) - (σ x0 0))) + ((x2 - (σ1 x0 1)) * ((σ x0 3) - (σ x0 1)))) then (if (((x1 - (σ1 x0 0)) * ((σ x0 2) - (σ x0 0))) + ((x2 - (σ1 x0 1)) * ((σ x0 3) - (σ x0 1)))) < a1 then (if 0 < (lg_cmp (((((x1 - (σ1 x0 0)).toInt64) * (((σ x0 3) - (σ x0 1)).toInt64)) - (((x2 - (σ1 x0 1)).toInt64) * (((σ x0 2) - (σ x0 0)).toInt64))) * ((((x1 - (σ1 x0 0)).toInt64) * (((σ x0 3) - (σ x0 1)).toInt64)) - (((x2 - (σ1 x0 1)).toInt64) * (((σ x0 2) - (σ x0 0)).toInt64)))) (((x3 * x3).toInt64) * a1.toInt64)) then (some ((0 : Int32), σ1)) else (some ((1 : Int32), σ1))) else (bd (f_X11_squareSum N R σ1 (x1 - (σ1 x0 2)) (x2 - (σ1 x0 3))) (fun a5 σ5 => if (x3 * x3) < a5 then (some ((0 : Int32), σ5)) else (some ((1 : Int32), σ5))))) else (bd (f_X11_squareSum N R σ1 (x1 - (σ1 x0 0)) (x2 - (σ1 x0 1))) (fun a7 σ7 => if (x3 * x3) < a7 then (some ((0 : Int32), σ7)) else (some ((1 : Int32), σ7)))))
set_option maxHeartbeats 4000000 in
set_option maxRecDepth 100000 in
theorem ok_X7_comesWithin {l : Launch} {g : GL} {R : Nat → Nat → Nat} {L : Nat → Nat → Int64} {N : Nat} {σ : SI} {x0 : Nat} {x1 : Int32} {x2 : Int32} {x3 : Int32} {r : (Int32 × SI)} (h : f_X7_comesWithin N R σ x0 x1 x2 x3 = some r) (hSh : ShR R) (hx0 : Ok 202 x0 7) : Ct l g 2 yX7_comesWithin cX7_comesWithin 11 (some .boolean) 202 202 0 0 [.ref (ga g x0), .int x1, .int x2, .int x3] (mkS σ R L) (PI R L r) := by
  refine Met.ofW (cc := cX7_comesWithin) (maxL := 11) (ret := (some .boolean)) (by decide) rfl ?_
  intro p e s m args below meth c s₁ B hml hv
  obtain ⟨rfl, hE, hLo, hWd⟩ := hv
  have hr : meth.sig.returnType = (some .boolean) := B.returns
  have C : Cx l g p s m meth c cX7_comesWithin 11 RX7 := ⟨B.exec, B.bytes, hml, findClass_of_methodNamed B.named, hE, hLo, B.notSynchronized⟩
  have S : S2 g s σ R L s.heap [] := ⟨hWd, va_S.rf⟩
  have hx := C.1
  have hb := C.2.1
  have hl := lv_entry ([.ref (ga g x0), .int x1, .int x2, .int x3]) (n := 11) (Nat.le_of_ble_eq_true rfl)
  rw [lg_entry_eq]
  generalize (lg_sl ([.ref (ga g x0), .int x1, .int x2, .int x3]) ++ List.replicate (11 - (lg_sl ([.ref (ga g x0), .int x1, .int x2, .int x3])).length) Slot.unset).toArray = ls at hl ⊢
  have hl : lv_has ls 11 [(0, .ref (ga g x0)), (1, .int x1), (2, .int x2), (3, .int x3)] := hl
  generalize hH : s.heap = H at S ⊢
  generalize hlc : ([] : List Loc) = locs at S ⊢
  rw [f_X7_comesWithin] at h
  refine lv_iload_n hx hb dX7_comesWithin_0 rfl (lv_at hl 3 rfl) ?_
  refine lv_iload_n hx hb dX7_comesWithin_1 rfl (lv_at hl 3 rfl) ?_
  refine lv_imul hx hb dX7_comesWithin_2 ?_
  refine lv_istore (lv' := [(4, .int (x3 * x3)), (0, .ref (ga g x0)), (1, .int x1), (2, .int x2), (3, .int x3)]) hx hb dX7_comesWithin_3 hl (by decide) rfl (fun ls hl => ?_)
  refine lv_aload_n hx hb dX7_comesWithin_5 rfl (lv_at hl 1 rfl) ?_
  refine x_getI C S KX7 hx0 2 (by decide) rfl rfl fl_RX7_7 dX7_comesWithin_6 ?_
  refine lv_aload_n hx hb dX7_comesWithin_9 rfl (lv_at hl 1 rfl) ?_
  refine x_getI C S KX7 hx0 0 (by decide) rfl rfl fl_RX7_13 dX7_comesWithin_10 ?_
  refine lv_isub hx hb dX7_comesWithin_13 ?_
  refine lv_istore (lv' := [(5, .int ((σ x0 2) - (σ x0 0))), (4, .int (x3 * x3)), (0, .ref (ga g x0)), (1, .int x1), (2, .int x2), (3, .int x3)]) hx hb dX7_comesWithin_14 hl (by decide) rfl (fun ls hl => ?_)
  refine lv_aload_n hx hb dX7_comesWithin_16 rfl (lv_at hl 2 rfl) ?_
  refine x_getI C S KX7 hx0 3 (by decide) rfl rfl fl_RX7_16 dX7_comesWithin_17 ?_
  refine lv_aload_n hx hb dX7_comesWithin_20 rfl (lv_at hl 2 rfl) ?_
  refine x_getI C S KX7 hx0 1 (by decide) rfl rfl fl_RX7_19 dX7_comesWithin_21 ?_
  refine lv_isub hx hb dX7_comesWithin_24 ?_
  refine lv_istore (lv' := [(6, .int ((σ x0 3) - (σ x0 1))), (5, .int ((σ x0 2) - (σ x0 0))), (4, .int (x3 * x3)), (0, .ref (ga g x0)), (1, .int x1), (2, .int x2), (3, .int x3)]) hx hb dX7_comesWithin_25 hl (by decide) rfl (fun ls hl => ?_)
  refine lv_iload hx hb dX7_comesWithin_27 (lv_at hl 1 rfl) ?_
  refine lv_iload hx hb dX7_comesWithin_29 (lv_at hl 0 rfl) ?_
  obtain ⟨a1, σ1, hc1, h⟩ := bd_el h
  refine x_callNI C S (ok_X11_squareSum (L := L) hc1 hSh) ⟨cd_X11_squareSum, ni_RX11, mn_RX7_22, st_X11_squareSum⟩ ⟨by decide, by decide⟩ rfl (rm_ok (by decide) (by decide)) hl.1 rfl (Nat.le_of_ble_eq_true rfl) ⟨by decide, by decide⟩ dX7_comesWithin_31 (fun H locs S => ?_)
  refine lv_istore (lv' := [(7, .int a1), (6, .int ((σ x0 3) - (σ x0 1))), (5, .int ((σ x0 2) - (σ x0 0))), (4, .int (x3 * x3)), (0, .ref (ga g x0)), (1, .int x1), (2, .int x2), (3, .int x3)]) hx hb dX7_comesWithin_34 hl (by decide) rfl (fun ls hl => ?_)
  refine lv_iload_n hx hb dX7_comesWithin_36 rfl (lv_at hl 5 rfl) ?_
  refine lv_aload_n hx hb dX7_comesWithin_37 rfl (lv_at hl 4 rfl) ?_
  refine x_getI C S KX7 hx0 0 (by decide) rfl rfl fl_RX7_13 dX7_comesWithin_38 ?_
  refine lv_isub hx hb dX7_comesWithin_41 ?_
  refine lv_iload hx hb dX7_comesWithin_42 (lv_at hl 2 rfl) ?_
  refine lv_imul hx hb dX7_comesWithin_44 ?_
  refine lv_iload_n hx hb dX7_comesWithin_45 rfl (lv_at hl 6 rfl) ?_
  refine lv_aload_n hx hb dX7_comesWithin_46 rfl (lv_at hl 4 rfl) ?_
  refine x_getI C S KX7 hx0 1 (by decide) rfl rfl fl_RX7_19 dX7_comesWithin_47 ?_
  refine lv_isub hx hb dX7_comesWithin_50 ?_
  refine lv_iload hx hb dX7_comesWithin_51 (lv_at hl 1 rfl) ?_
  refine lv_imul hx hb dX7_comesWithin_53 ?_
  refine lv_iadd hx hb dX7_comesWithin_54 ?_
  refine lv_istore (lv' := [(8, .int (((x1 - (σ1 x0 0)) * ((σ x0 2) - (σ x0 0))) + ((x2 - (σ1 x0 1)) * ((σ x0 3) - (σ x0 1))))), (7, .int a1), (6, .int ((σ x0 3) - (σ x0 1))), (5, .int ((σ x0 2) - (σ x0 0))), (4, .int (x3 * x3)), (0, .ref (ga g x0)), (1, .int x1), (2, .int x2), (3, .int x3)]) hx hb dX7_comesWithin_55 hl (by decide) rfl (fun ls hl => ?_)
  refine lv_iload hx hb dX7_comesWithin_57 (lv_at hl 0 rfl) ?_
  refine lv_if_gt (tgt := 88) hx hb dX7_comesWithin_59 (by decide) (fun c2 => ?_) (fun c2 => ?_)
  · have h := it_p c2 h
    refine lv_iload hx hb dX7_comesWithin_88 (lv_at hl 0 rfl) ?_
    refine lv_iload hx hb dX7_comesWithin_90 (lv_at hl 1 rfl) ?_
    refine lv_icmp_lt (tgt := 121) hx hb dX7_comesWithin_92 (by decide) (fun c3 => ?_) (fun c3 => ?_)
    · have h := it_p c3 h
      refine lv_iload_n hx hb dX7_comesWithin_121 rfl (lv_at hl 6 rfl) ?_
      refine lv_aload_n hx hb dX7_comesWithin_122 rfl (lv_at hl 5 rfl) ?_
      refine x_getI C S KX7 hx0 0 (by decide) rfl rfl fl_RX7_13 dX7_comesWithin_123 ?_
      refine lv_isub hx hb dX7_comesWithin_126 ?_
      refine lv_i2l hx hb dX7_comesWithin_127 rfl ?_
      refine lv_iload hx hb dX7_comesWithin_128 (lv_at hl 2 rfl) ?_
      refine lv_i2l hx hb dX7_comesWithin_130 rfl ?_
      refine lv_lmul hx hb dX7_comesWithin_131 ?_
      refine lv_iload_n hx hb dX7_comesWithin_132 rfl (lv_at hl 7 rfl) ?_
      refine lv_aload_n hx hb dX7_comesWithin_133 rfl (lv_at hl 5 rfl) ?_
      refine x_getI C S KX7 hx0 1 (by decide) rfl rfl fl_RX7_19 dX7_comesWithin_134 ?_
      refine lv_isub hx hb dX7_comesWithin_137 ?_
      refine lv_i2l hx hb dX7_comesWithin_138 rfl ?_
      refine lv_iload hx hb dX7_comesWithin_139 (lv_at hl 3 rfl) ?_
      refine lv_i2l hx hb dX7_comesWithin_141 rfl ?_
      refine lv_lmul hx hb dX7_comesWithin_142 ?_
      refine lv_lsub hx hb dX7_comesWithin_143 ?_
      refine lv_lstore (lv' := [(9, .long ((((x1 - (σ1 x0 0)).toInt64) * (((σ x0 3) - (σ x0 1)).toInt64)) - (((x2 - (σ1 x0 1)).toInt64) * (((σ x0 2) - (σ x0 0)).toInt64)))), (8, .int (((x1 - (σ1 x0 0)) * ((σ x0 2) - (σ x0 0))) + ((x2 - (σ1 x0 1)) * ((σ x0 3) - (σ x0 1))))), (7, .int a1), (6, .int ((σ x0 3) - (σ x0 1))), (5, .int ((σ x0 2) - (σ x0 0))), (4, .int (x3 * x3)), (0, .ref (ga g x0)), (1, .int x1), (2, .int x2), (3, .int x3)]) hx hb dX7_comesWithin_144 hl (by decide) rfl (fun ls hl => ?_)
      refine lv_lload hx hb dX7_comesWithin_146 (lv_at hl 0 rfl) ?_
      refine lv_lload hx hb dX7_comesWithin_148 (lv_at hl 0 rfl) ?_
      refine lv_lmul hx hb dX7_comesWithin_150 ?_
      refine lv_iload hx hb dX7_comesWithin_151 (lv_at hl 5 rfl) ?_
      refine lv_i2l hx hb dX7_comesWithin_153 rfl ?_
      refine lv_iload hx hb dX7_comesWithin_154 (lv_at hl 2 rfl) ?_
      refine lv_i2l hx hb dX7_comesWithin_156 rfl ?_
      refine lv_lmul hx hb dX7_comesWithin_157 ?_
      refine W.lcmp hx hb dX7_comesWithin_158 ?_
      refine lv_if_gt (tgt := 166) hx hb dX7_comesWithin_159 (by decide) (fun c4 => ?_) (fun c4 => ?_)
      · have h := it_p c4 h
        refine lv_iconst (v := (0 : Int32)) hx hb dX7_comesWithin_166 (by decide) ?_
        exact x_zret C S hr (by decide) h dX7_comesWithin_167
      · have h := it_n c4 h
        refine lv_iconst (v := (1 : Int32)) hx hb dX7_comesWithin_162 (by decide) ?_
        refine lv_goto (tgt := 167) hx hb dX7_comesWithin_163 (by decide) ?_
        exact x_zret C S hr (by decide) h dX7_comesWithin_167
    · have h := it_n c3 h
      refine lv_iload_n hx hb dX7_comesWithin_95 rfl (lv_at hl 6 rfl) ?_
      refine lv_aload_n hx hb dX7_comesWithin_96 rfl (lv_at hl 5 rfl) ?_
      refine x_getI C S KX7 hx0 2 (by decide) rfl rfl fl_RX7_7 dX7_comesWithin_97 ?_
      refine lv_isub hx hb dX7_comesWithin_100 ?_
      refine lv_iload_n hx hb dX7_comesWithin_101 rfl (lv_at hl 7 rfl) ?_
      refine lv_aload_n hx hb dX7_comesWithin_102 rfl (lv_at hl 5 rfl) ?_
      refine x_getI C S KX7 hx0 3 (by decide) rfl rfl fl_RX7_16 dX7_comesWithin_103 ?_
      refine lv_isub hx hb dX7_comesWithin_106 ?_
      obtain ⟨a5, σ5, hc5, h⟩ := bd_el h
      refine x_callNI C S (ok_X11_squareSum (L := L) hc5 hSh) ⟨cd_X11_squareSum, ni_RX11, mn_RX7_22, st_X11_squareSum⟩ ⟨by decide, by decide⟩ rfl (rm_ok (by decide) (by decide)) hl.1 rfl (Nat.le_of_ble_eq_true rfl) ⟨by decide, by decide⟩ dX7_comesWithin_107 (fun H locs S => ?_)
      refine lv_iload hx hb dX7_comesWithin_110 (lv_at hl 4 rfl) ?_
      refine lv_icmp_gt (tgt := 119) hx hb dX7_comesWithin_112 (by decide) (fun c6 => ?_) (fun c6 => ?_)
      · have h := it_p c6 h
        refine lv_iconst (v := (0 : Int32)) hx hb dX7_comesWithin_119 (by decide) ?_
        exact x_zret C S hr (by decide) h dX7_comesWithin_120
      · have h := it_n c6 h
        refine lv_iconst (v := (1 : Int32)) hx hb dX7_comesWithin_115 (by decide) ?_
        refine lv_goto (tgt := 120) hx hb dX7_comesWithin_116 (by decide) ?_
        exact x_zret C S hr (by decide) h dX7_comesWithin_120
  · have h := it_n c2 h
    refine lv_iload_n hx hb dX7_comesWithin_62 rfl (lv_at hl 6 rfl) ?_
    refine lv_aload_n hx hb dX7_comesWithin_63 rfl (lv_at hl 5 rfl) ?_
    refine x_getI C S KX7 hx0 0 (by decide) rfl rfl fl_RX7_13 dX7_comesWithin_64 ?_
    refine lv_isub hx hb dX7_comesWithin_67 ?_
    refine lv_iload_n hx hb dX7_comesWithin_68 rfl (lv_at hl 7 rfl) ?_
    refine lv_aload_n hx hb dX7_comesWithin_69 rfl (lv_at hl 5 rfl) ?_
    refine x_getI C S KX7 hx0 1 (by decide) rfl rfl fl_RX7_19 dX7_comesWithin_70 ?_
    refine lv_isub hx hb dX7_comesWithin_73 ?_
    obtain ⟨a7, σ7, hc7, h⟩ := bd_el h
    refine x_callNI C S (ok_X11_squareSum (L := L) hc7 hSh) ⟨cd_X11_squareSum, ni_RX11, mn_RX7_22, st_X11_squareSum⟩ ⟨by decide, by decide⟩ rfl (rm_ok (by decide) (by decide)) hl.1 rfl (Nat.le_of_ble_eq_true rfl) ⟨by decide, by decide⟩ dX7_comesWithin_74 (fun H locs S => ?_)
    refine lv_iload hx hb dX7_comesWithin_77 (lv_at hl 4 rfl) ?_
    refine lv_icmp_gt (tgt := 86) hx hb dX7_comesWithin_79 (by decide) (fun c8 => ?_) (fun c8 => ?_)
    · have h := it_p c8 h
      refine lv_iconst (v := (0 : Int32)) hx hb dX7_comesWithin_86 (by decide) ?_
      exact x_zret C S hr (by decide) h dX7_comesWithin_87
    · have h := it_n c8 h
      refine lv_iconst (v := (1 : Int32)) hx hb dX7_comesWithin_82 (by decide) ?_
      refine lv_goto (tgt := 87) hx hb dX7_comesWithin_83 (by decide) ?_
      exact x_zret C S hr (by decide) h dX7_comesWithin_87
theorem dX9_reset_0 : decode cX9_reset 0 = .ok (.aload_n 0, 1) := by decide +kernel
theorem dX9_reset_1 : decode cX9_reset 1 = .ok (.iconst 0, 1) := by decide +kernel
theorem dX9_reset_2 : decode cX9_reset 2 = .ok (.putfield 54, 3) := by decide +kernel
theorem dX9_reset_5 : decode cX9_reset 5 = .ok (.aload_n 0, 1) := by decide +kernel
theorem dX9_reset_6 : decode cX9_reset 6 = .ok (.iconst 0, 1) := by decide +kernel
theorem dX9_reset_7 : decode cX9_reset 7 = .ok (.putfield 58, 3) := by decide +kernel
theorem dX9_reset_10 : decode cX9_reset 10 = .ok (.aload_n 0, 1) := by decide +kernel
theorem dX9_reset_11 : decode cX9_reset 11 = .ok (.iconst 0, 1) := by decide +kernel
theorem dX9_reset_12 : decode cX9_reset 12 = .ok (.putfield 61, 3) := by decide +kernel
theorem dX9_reset_15 : decode cX9_reset 15 = .ok (.aload_n 0, 1) := by decide +kernel
theorem dX9_reset_16 : decode cX9_reset 16 = .ok (.sipush 480, 3) := by decide +kernel
theorem dX9_reset_19 : decode cX9_reset 19 = .ok (.putfield 64, 3) := by decide +kernel
theorem dX9_reset_22 : decode cX9_reset 22 = .ok (.aload_n 0, 1) := by decide +kernel
theorem dX9_reset_23 : decode cX9_reset 23 = .ok (.sipush 960, 3) := by decide +kernel
theorem dX9_reset_26 : decode cX9_reset 26 = .ok (.putfield 67, 3) := by decide +kernel
theorem dX9_reset_29 : decode cX9_reset 29 = .ok (.aload_n 0, 1) := by decide +kernel
theorem dX9_reset_30 : decode cX9_reset 30 = .ok (.bipush 60, 2) := by decide +kernel
theorem dX9_reset_32 : decode cX9_reset 32 = .ok (.putfield 70, 3) := by decide +kernel
theorem dX9_reset_35 : decode cX9_reset 35 = .ok (.aload_n 0, 1) := by decide +kernel
theorem dX9_reset_36 : decode cX9_reset 36 = .ok (.bipush 10, 2) := by decide +kernel
theorem dX9_reset_38 : decode cX9_reset 38 = .ok (.putfield 73, 3) := by decide +kernel
theorem dX9_reset_41 : decode cX9_reset 41 = .ok (.aload_n 0, 1) := by decide +kernel
theorem dX9_reset_42 : decode cX9_reset 42 = .ok (.iconst 5, 1) := by decide +kernel
theorem dX9_reset_43 : decode cX9_reset 43 = .ok (.putfield 76, 3) := by decide +kernel
theorem dX9_reset_46 : decode cX9_reset 46 = .ok (.aload_n 0, 1) := by decide +kernel
theorem dX9_reset_47 : decode cX9_reset 47 = .ok (.bipush 15, 2) := by decide +kernel
theorem dX9_reset_49 : decode cX9_reset 49 = .ok (.putfield 79, 3) := by decide +kernel
theorem dX9_reset_52 : decode cX9_reset 52 = .ok (.iconst 0, 1) := by decide +kernel
theorem dX9_reset_53 : decode cX9_reset 53 = .ok (.istore_n 1, 1) := by decide +kernel
theorem dX9_reset_54 : decode cX9_reset 54 = .ok (.iload_n 1, 1) := by decide +kernel
theorem dX9_reset_55 : decode cX9_reset 55 = .ok (.bipush 24, 2) := by decide +kernel
theorem dX9_reset_57 : decode cX9_reset 57 = .ok (.if_icmp .ge 23, 3) := by decide +kernel
theorem dX9_reset_60 : decode cX9_reset 60 = .ok (.aload_n 0, 1) := by decide +kernel
theorem dX9_reset_61 : decode cX9_reset 61 = .ok (.getfield 42, 3) := by decide +kernel
theorem dX9_reset_64 : decode cX9_reset 64 = .ok (.iload_n 1, 1) := by decide +kernel
theorem dX9_reset_65 : decode cX9_reset 65 = .ok (.iconst (-1), 1) := by decide +kernel
theorem dX9_reset_66 : decode cX9_reset 66 = .ok (.iastore, 1) := by decide +kernel
theorem dX9_reset_67 : decode cX9_reset 67 = .ok (.aload_n 0, 1) := by decide +kernel
theorem dX9_reset_68 : decode cX9_reset 68 = .ok (.getfield 45, 3) := by decide +kernel
theorem dX9_reset_71 : decode cX9_reset 71 = .ok (.iload_n 1, 1) := by decide +kernel
theorem dX9_reset_72 : decode cX9_reset 72 = .ok (.iconst 0, 1) := by decide +kernel
theorem dX9_reset_73 : decode cX9_reset 73 = .ok (.iastore, 1) := by decide +kernel
theorem dX9_reset_74 : decode cX9_reset 74 = .ok (.iinc 1 1, 3) := by decide +kernel
theorem dX9_reset_77 : decode cX9_reset 77 = .ok (.goto (-23), 3) := by decide +kernel
theorem dX9_reset_80 : decode cX9_reset 80 = .ok (.iconst 0, 1) := by decide +kernel
theorem dX9_reset_81 : decode cX9_reset 81 = .ok (.istore_n 1, 1) := by decide +kernel
theorem dX9_reset_82 : decode cX9_reset 82 = .ok (.iload_n 1, 1) := by decide +kernel
theorem dX9_reset_83 : decode cX9_reset 83 = .ok (.bipush 6, 2) := by decide +kernel
theorem dX9_reset_85 : decode cX9_reset 85 = .ok (.if_icmp .ge 16, 3) := by decide +kernel
theorem dX9_reset_88 : decode cX9_reset 88 = .ok (.aload_n 0, 1) := by decide +kernel
theorem dX9_reset_89 : decode cX9_reset 89 = .ok (.getfield 39, 3) := by decide +kernel
theorem dX9_reset_92 : decode cX9_reset 92 = .ok (.iload_n 1, 1) := by decide +kernel
theorem dX9_reset_93 : decode cX9_reset 93 = .ok (.iconst (-1), 1) := by decide +kernel
theorem dX9_reset_94 : decode cX9_reset 94 = .ok (.iastore, 1) := by decide +kernel
theorem dX9_reset_95 : decode cX9_reset 95 = .ok (.iinc 1 1, 3) := by decide +kernel
theorem dX9_reset_98 : decode cX9_reset 98 = .ok (.goto (-16), 3) := by decide +kernel
theorem dX9_reset_101 : decode cX9_reset 101 = .ok (.return_, 1) := by decide +kernel
def f_X9_reset_82 (N : Nat) (R : Nat → Nat → Nat) : Nat → SI → Nat → Int32 → Option (Unit × SI)
  | 0, _, _, _ => none
  | n + 1, σ, x0, x1 => if (6 : Int32) ≤ x1 then (some ((), σ)) else (ck x1 6 (sq (up σ (R x0 6) x1.toNatClampNeg (-1 : Int32)) (fun σ14 => f_X9_reset_82 N R n σ14 x0 (x1 + 1))))
def f_X9_reset_54 (N : Nat) (R : Nat → Nat → Nat) : Nat → SI → Nat → Int32 → Option (Unit × SI)
  | 0, _, _, _ => none
  | n + 1, σ, x0, x1 => if (24 : Int32) ≤ x1 then (f_X9_reset_82 N R N σ x0 (0 : Int32)) else (ck x1 24 (sq (up σ (R x0 7) x1.toNatClampNeg (-1 : Int32)) (fun σ17 => ck x1 24 (sq (up σ17 (R x0 8) x1.toNatClampNeg (0 : Int32)) (fun σ20 => f_X9_reset_54 N R n σ20 x0 (x1 + 1))))))
def f_X9_reset (N : Nat) (R : Nat → Nat → Nat) (σ : SI) (x0 : Nat) : Option (Unit × SI) := sq (up σ x0 9 (0 : Int32)) (fun σ1 => sq (up σ1 x0 10 (0 : Int32)) (fun σ2 => sq (up σ2 x0 11 (0 : Int32)) (fun σ3 => sq (up σ3 x0 12 (480 : Int32)) (fun σ4 => sq (up σ4 x0 13 (960 : Int32)) (fun σ5 => sq (up σ5 x0 14 (60 : Int32)) (fun σ6 => sq (up σ6 x0 15 (10 : Int32)) (fun σ7 => sq (up σ7 x0 16 (5 : Int32)) (fun σ8 => sq (up σ8 x0 17 (15 : Int32)) (fun σ9 => f_X9_reset_54 N R N σ9 x0 (0 : Int32))))))))))
set_option maxHeartbeats 4000000 in
set_option maxRecDepth 100000 in
theorem w_X9_reset_82 {l : Launch} {g : GL} {p : Program} {e : Jvm.Env} {s : State} {m : MethodId} {args : Array Value} {below : List Frame} {meth : Method} {c : Code} {R : Nat → Nat → Nat} {L : Nat → Nat → Int64} {r : (Unit × SI)} {N : Nat} (C : Cx l g p s m meth c cX9_reset 2 RX9) (hr : meth.sig.returnType = none) (hSh : ShR R) : ∀ (n : Nat) (σ : SI) (x0 : Nat) (x1 : Int32), f_X9_reset_82 N R n σ x0 x1 = some r → Ok 202 x0 9 → ∀ (H : Heap) (locs : List Loc) (ls : Array Slot), S2 g s σ R L H locs → lv_has ls 2 [(0, .ref (ga g x0)), (1, .int x1)] → W p l e (rmd 1 0 0) s m args below meth c H locs 0 0 (MQ below (Qg g 202 (PV R L r)) args s 0 0 (gA g)) (F0 m 82 ls []) := by
  have hx := C.1
  have hb := C.2.1
  intro n
  induction n with
  | zero =>
    intro σ x0 x1 h
    cases (show (none : Option (Unit × SI)) = some r from h)
  | succ n ih =>
    intro σ x0 x1 h hx0 H locs ls S hl
    rw [f_X9_reset_82] at h
    refine lv_iload_n hx hb dX9_reset_82 rfl (lv_at hl 1 rfl) ?_
    refine lv_bipush (v := (6 : Int32)) hx hb dX9_reset_83 (by decide) ?_
    refine lv_icmp_ge (tgt := 101) hx hb dX9_reset_85 (by decide) (fun c11 => ?_) (fun c11 => ?_)
    · have h := it_p c11 h
      exact x_vret C S hr h dX9_reset_101
    · have h := it_n c11 h
      refine lv_aload_n hx hb dX9_reset_88 rfl (lv_at hl 0 rfl) ?_
      have hR12 : Ok 202 (R x0 6) 10006 := hSh x0 9 6 10006 hx0.1 rfl
      refine x_getR C S KX9 hx0 6 (by decide) rfl rfl fl_RX9_39 hR12 dX9_reset_89 ?_
      refine lv_iload_n hx hb dX9_reset_92 rfl (lv_at hl 1 rfl) ?_
      refine lv_iconst (v := (-1 : Int32)) hx hb dX9_reset_93 (by decide) ?_
      obtain ⟨hi13, h⟩ := ck_el h
      obtain ⟨σ14, hs14, h⟩ := sq_el h
      refine x_iast (len := 6) C S (by decide) hR12 hi13 dX9_reset_94 hs14 (fun H locs S => ?_)
      refine lv_iinc (v := x1 + 1) (lv' := [(1, .int (x1 + 1)), (0, .ref (ga g x0))]) hx hb dX9_reset_95 hl (k := 1) rfl rfl (by decide) rfl (fun ls hl => ?_)
      refine lv_goto (tgt := 82) hx hb dX9_reset_98 (by decide) ?_
      exact ih σ14 x0 (x1 + 1) h hx0 H locs ls S (lv_sub hl [1, 0] rfl)
set_option maxHeartbeats 4000000 in
set_option maxRecDepth 100000 in
theorem w_X9_reset_54 {l : Launch} {g : GL} {p : Program} {e : Jvm.Env} {s : State} {m : MethodId} {args : Array Value} {below : List Frame} {meth : Method} {c : Code} {R : Nat → Nat → Nat} {L : Nat → Nat → Int64} {r : (Unit × SI)} {N : Nat} (C : Cx l g p s m meth c cX9_reset 2 RX9) (hr : meth.sig.returnType = none) (hSh : ShR R) : ∀ (n : Nat) (σ : SI) (x0 : Nat) (x1 : Int32), f_X9_reset_54 N R n σ x0 x1 = some r → Ok 202 x0 9 → ∀ (H : Heap) (locs : List Loc) (ls : Array Slot), S2 g s σ R L H locs → lv_has ls 2 [(0, .ref (ga g x0)), (1, .int x1)] → W p l e (rmd 1 0 0) s m args below meth c H locs 0 0 (MQ below (Qg g 202 (PV R L r)) args s 0 0 (gA g)) (F0 m 54 ls []) := by
  have hx := C.1
  have hb := C.2.1
  intro n
  induction n with
  | zero =>
    intro σ x0 x1 h
    cases (show (none : Option (Unit × SI)) = some r from h)
  | succ n ih =>
    intro σ x0 x1 h hx0 H locs ls S hl
    rw [f_X9_reset_54] at h
    refine lv_iload_n hx hb dX9_reset_54 rfl (lv_at hl 1 rfl) ?_
    refine lv_bipush (v := (24 : Int32)) hx hb dX9_reset_55 (by decide) ?_
    refine lv_icmp_ge (tgt := 80) hx hb dX9_reset_57 (by decide) (fun c10 => ?_) (fun c10 => ?_)
    · have h := it_p c10 h
      refine lv_iconst (v := (0 : Int32)) hx hb dX9_reset_80 (by decide) ?_
      refine lv_istore_n (lv' := [(1, .int (0 : Int32)), (0, .ref (ga g x0))]) hx hb dX9_reset_81 rfl hl (by decide) rfl (fun ls hl => ?_)
      exact w_X9_reset_82 C hr hSh N σ x0 (0 : Int32) h hx0 H locs ls S (lv_sub hl [1, 0] rfl)
    · have h := it_n c10 h
      refine lv_aload_n hx hb dX9_reset_60 rfl (lv_at hl 0 rfl) ?_
      have hR15 : Ok 202 (R x0 7) 10024 := hSh x0 9 7 10024 hx0.1 rfl
      refine x_getR C S KX9 hx0 7 (by decide) rfl rfl fl_RX9_42 hR15 dX9_reset_61 ?_
      refine lv_iload_n hx hb dX9_reset_64 rfl (lv_at hl 1 rfl) ?_
      refine lv_iconst (v := (-1 : Int32)) hx hb dX9_reset_65 (by decide) ?_
      obtain ⟨hi16, h⟩ := ck_el h
      obtain ⟨σ17, hs17, h⟩ := sq_el h
      refine x_iast (len := 24) C S (by decide) hR15 hi16 dX9_reset_66 hs17 (fun H locs S => ?_)
      refine lv_aload_n hx hb dX9_reset_67 rfl (lv_at hl 0 rfl) ?_
      have hR18 : Ok 202 (R x0 8) 10024 := hSh x0 9 8 10024 hx0.1 rfl
      refine x_getR C S KX9 hx0 8 (by decide) rfl rfl fl_RX9_45 hR18 dX9_reset_68 ?_
      refine lv_iload_n hx hb dX9_reset_71 rfl (lv_at hl 1 rfl) ?_
      refine lv_iconst (v := (0 : Int32)) hx hb dX9_reset_72 (by decide) ?_
      obtain ⟨hi19, h⟩ := ck_el h
      obtain ⟨σ20, hs20, h⟩ := sq_el h
      refine x_iast (len := 24) C S (by decide) hR18 hi19 dX9_reset_73 hs20 (fun H locs S => ?_)
      refine lv_iinc (v := x1 + 1) (lv' := [(1, .int (x1 + 1)), (0, .ref (ga g x0))]) hx hb dX9_reset_74 hl (k := 1) rfl rfl (by decide) rfl (fun ls hl => ?_)
      refine lv_goto (tgt := 54) hx hb dX9_reset_77 (by decide) ?_
      exact ih σ20 x0 (x1 + 1) h hx0 H locs ls S (lv_sub hl [1, 0] rfl)
set_option maxHeartbeats 4000000 in
set_option maxRecDepth 100000 in
theorem ok_X9_reset {l : Launch} {g : GL} {R : Nat → Nat → Nat} {L : Nat → Nat → Int64} {N : Nat} {σ : SI} {x0 : Nat} {r : (Unit × SI)} (h : f_X9_reset N R σ x0 = some r) (hSh : ShR R) (hx0 : Ok 202 x0 9) : Ct l g 1 yX9_reset cX9_reset 2 none 202 202 0 0 [.ref (ga g x0)] (mkS σ R L) (PV R L r) := by
  refine Met.ofW (cc := cX9_reset) (maxL := 2) (ret := none) (by decide) rfl ?_
  intro p e s m args below meth c s₁ B hml hv
  obtain ⟨rfl, hE, hLo, hWd⟩ := hv
  have hr : meth.sig.returnType = none := B.returns
  have C : Cx l g p s m meth c cX9_reset 2 RX9 := ⟨B.exec, B.bytes, hml, findClass_of_methodNamed B.named, hE, hLo, B.notSynchronized⟩
  have S : S2 g s σ R L s.heap [] := ⟨hWd, va_S.rf⟩
  have hx := C.1
  have hb := C.2.1
  have hl := lv_entry ([.ref (ga g x0)]) (n := 2) (Nat.le_of_ble_eq_true rfl)
  rw [lg_entry_eq]
  generalize (lg_sl ([.ref (ga g x0)]) ++ List.replicate (2 - (lg_sl ([.ref (ga g x0)])).length) Slot.unset).toArray = ls at hl ⊢
  have hl : lv_has ls 2 [(0, .ref (ga g x0))] := hl
  generalize hH : s.heap = H at S ⊢
  generalize hlc : ([] : List Loc) = locs at S ⊢
  rw [f_X9_reset] at h
  refine lv_aload_n hx hb dX9_reset_0 rfl (lv_at hl 0 rfl) ?_
  refine lv_iconst (v := (0 : Int32)) hx hb dX9_reset_1 (by decide) ?_
  obtain ⟨σ1, hs1, h⟩ := sq_el h
  refine x_putI C S KX9 hx0 9 (by decide) rfl rfl rfl ⟨rfl, rfl⟩ fl_RX9_54 dX9_reset_2 hs1 (fun H locs S => ?_)
  refine lv_aload_n hx hb dX9_reset_5 rfl (lv_at hl 0 rfl) ?_
  refine lv_iconst (v := (0 : Int32)) hx hb dX9_reset_6 (by decide) ?_
  obtain ⟨σ2, hs2, h⟩ := sq_el h
  refine x_putI C S KX9 hx0 10 (by decide) rfl rfl rfl ⟨rfl, rfl⟩ fl_RX9_58 dX9_reset_7 hs2 (fun H locs S => ?_)
  refine lv_aload_n hx hb dX9_reset_10 rfl (lv_at hl 0 rfl) ?_
  refine lv_iconst (v := (0 : Int32)) hx hb dX9_reset_11 (by decide) ?_
  obtain ⟨σ3, hs3, h⟩ := sq_el h
  refine x_putI C S KX9 hx0 11 (by decide) rfl rfl rfl ⟨rfl, rfl⟩ fl_RX9_61 dX9_reset_12 hs3 (fun H locs S => ?_)
  refine lv_aload_n hx hb dX9_reset_15 rfl (lv_at hl 0 rfl) ?_
  refine lv_sipush (v := (480 : Int32)) hx hb dX9_reset_16 (by decide) ?_
  obtain ⟨σ4, hs4, h⟩ := sq_el h
  refine x_putI C S KX9 hx0 12 (by decide) rfl rfl rfl ⟨rfl, rfl⟩ fl_RX9_64 dX9_reset_19 hs4 (fun H locs S => ?_)
  refine lv_aload_n hx hb dX9_reset_22 rfl (lv_at hl 0 rfl) ?_
  refine lv_sipush (v := (960 : Int32)) hx hb dX9_reset_23 (by decide) ?_
  obtain ⟨σ5, hs5, h⟩ := sq_el h
  refine x_putI C S KX9 hx0 13 (by decide) rfl rfl rfl ⟨rfl, rfl⟩ fl_RX9_67 dX9_reset_26 hs5 (fun H locs S => ?_)
  refine lv_aload_n hx hb dX9_reset_29 rfl (lv_at hl 0 rfl) ?_
  refine lv_bipush (v := (60 : Int32)) hx hb dX9_reset_30 (by decide) ?_
  obtain ⟨σ6, hs6, h⟩ := sq_el h
  refine x_putI C S KX9 hx0 14 (by decide) rfl rfl rfl ⟨rfl, rfl⟩ fl_RX9_70 dX9_reset_32 hs6 (fun H locs S => ?_)
  refine lv_aload_n hx hb dX9_reset_35 rfl (lv_at hl 0 rfl) ?_
  refine lv_bipush (v := (10 : Int32)) hx hb dX9_reset_36 (by decide) ?_
  obtain ⟨σ7, hs7, h⟩ := sq_el h
  refine x_putI C S KX9 hx0 15 (by decide) rfl rfl rfl ⟨rfl, rfl⟩ fl_RX9_73 dX9_reset_38 hs7 (fun H locs S => ?_)
  refine lv_aload_n hx hb dX9_reset_41 rfl (lv_at hl 0 rfl) ?_
  refine lv_iconst (v := (5 : Int32)) hx hb dX9_reset_42 (by decide) ?_
  obtain ⟨σ8, hs8, h⟩ := sq_el h
  refine x_putI C S KX9 hx0 16 (by decide) rfl rfl rfl ⟨rfl, rfl⟩ fl_RX9_76 dX9_reset_43 hs8 (fun H locs S => ?_)
  refine lv_aload_n hx hb dX9_reset_46 rfl (lv_at hl 0 rfl) ?_
  refine lv_bipush (v := (15 : Int32)) hx hb dX9_reset_47 (by decide) ?_
  obtain ⟨σ9, hs9, h⟩ := sq_el h
  refine x_putI C S KX9 hx0 17 (by decide) rfl rfl rfl ⟨rfl, rfl⟩ fl_RX9_79 dX9_reset_49 hs9 (fun H locs S => ?_)
  refine lv_iconst (v := (0 : Int32)) hx hb dX9_reset_52 (by decide) ?_
  refine lv_istore_n (lv' := [(1, .int (0 : Int32)), (0, .ref (ga g x0))]) hx hb dX9_reset_53 rfl hl (by decide) rfl (fun ls hl => ?_)
  exact w_X9_reset_54 C hr hSh N σ9 x0 (0 : Int32) h hx0 H locs ls S (lv_sub hl [1, 0] rfl)
theorem dX9_measureNeighbours_0 : decode cX9_measureNeighbours 0 = .ok (.iconst 3, 1) := by decide +kernel
theorem dX9_measureNeighbours_1 : decode cX9_measureNeighbours 1 = .ok (.aload_n 1, 1) := by decide +kernel
theorem dX9_measureNeighbours_2 : decode cX9_measureNeighbours 2 = .ok (.getfield 99, 3) := by decide +kernel
theorem dX9_measureNeighbours_5 : decode cX9_measureNeighbours 5 = .ok (.imul, 1) := by decide +kernel
theorem dX9_measureNeighbours_6 : decode cX9_measureNeighbours 6 = .ok (.istore_n 2, 1) := by decide +kernel
theorem dX9_measureNeighbours_7 : decode cX9_measureNeighbours 7 = .ok (.aload_n 1, 1) := by decide +kernel
theorem dX9_measureNeighbours_8 : decode cX9_measureNeighbours 8 = .ok (.iconst 0, 1) := by decide +kernel
theorem dX9_measureNeighbours_9 : decode cX9_measureNeighbours 9 = .ok (.putfield 102, 3) := by decide +kernel
theorem dX9_measureNeighbours_12 : decode cX9_measureNeighbours 12 = .ok (.iconst 0, 1) := by decide +kernel
theorem dX9_measureNeighbours_13 : decode cX9_measureNeighbours 13 = .ok (.istore_n 3, 1) := by decide +kernel
theorem dX9_measureNeighbours_14 : decode cX9_measureNeighbours 14 = .ok (.iload_n 3, 1) := by decide +kernel
theorem dX9_measureNeighbours_15 : decode cX9_measureNeighbours 15 = .ok (.aload_n 0, 1) := by decide +kernel
theorem dX9_measureNeighbours_16 : decode cX9_measureNeighbours 16 = .ok (.getfield 54, 3) := by decide +kernel
theorem dX9_measureNeighbours_19 : decode cX9_measureNeighbours 19 = .ok (.if_icmp .ge 70, 3) := by decide +kernel
theorem dX9_measureNeighbours_22 : decode cX9_measureNeighbours 22 = .ok (.aload_n 0, 1) := by decide +kernel
theorem dX9_measureNeighbours_23 : decode cX9_measureNeighbours 23 = .ok (.getfield 11, 3) := by decide +kernel
theorem dX9_measureNeighbours_26 : decode cX9_measureNeighbours 26 = .ok (.iload_n 3, 1) := by decide +kernel
theorem dX9_measureNeighbours_27 : decode cX9_measureNeighbours 27 = .ok (.aaload, 1) := by decide +kernel
theorem dX9_measureNeighbours_28 : decode cX9_measureNeighbours 28 = .ok (.getfield 105, 3) := by decide +kernel
theorem dX9_measureNeighbours_31 : decode cX9_measureNeighbours 31 = .ok (.aload_n 1, 1) := by decide +kernel
theorem dX9_measureNeighbours_32 : decode cX9_measureNeighbours 32 = .ok (.getfield 108, 3) := by decide +kernel
theorem dX9_measureNeighbours_35 : decode cX9_measureNeighbours 35 = .ok (.isub, 1) := by decide +kernel
theorem dX9_measureNeighbours_36 : decode cX9_measureNeighbours 36 = .ok (.aload_n 0, 1) := by decide +kernel
theorem dX9_measureNeighbours_37 : decode cX9_measureNeighbours 37 = .ok (.getfield 11, 3) := by decide +kernel
theorem dX9_measureNeighbours_40 : decode cX9_measureNeighbours 40 = .ok (.iload_n 3, 1) := by decide +kernel
theorem dX9_measureNeighbours_41 : decode cX9_measureNeighbours 41 = .ok (.aaload, 1) := by decide +kernel
theorem dX9_measureNeighbours_42 : decode cX9_measureNeighbours 42 = .ok (.getfield 109, 3) := by decide +kernel
theorem dX9_measureNeighbours_45 : decode cX9_measureNeighbours 45 = .ok (.aload_n 1, 1) := by decide +kernel
theorem dX9_measureNeighbours_46 : decode cX9_measureNeighbours 46 = .ok (.getfield 112, 3) := by decide +kernel
theorem dX9_measureNeighbours_49 : decode cX9_measureNeighbours 49 = .ok (.isub, 1) := by decide +kernel
theorem dX9_measureNeighbours_50 : decode cX9_measureNeighbours 50 = .ok (.invokestatic 113, 3) := by decide +kernel
theorem dX9_measureNeighbours_53 : decode cX9_measureNeighbours 53 = .ok (.istore 4, 2) := by decide +kernel
theorem dX9_measureNeighbours_55 : decode cX9_measureNeighbours 55 = .ok (.aload_n 1, 1) := by decide +kernel
theorem dX9_measureNeighbours_56 : decode cX9_measureNeighbours 56 = .ok (.getfield 117, 3) := by decide +kernel
theorem dX9_measureNeighbours_59 : decode cX9_measureNeighbours 59 = .ok (.iload_n 3, 1) := by decide +kernel
theorem dX9_measureNeighbours_60 : decode cX9_measureNeighbours 60 = .ok (.iload 4, 2) := by decide +kernel
theorem dX9_measureNeighbours_62 : decode cX9_measureNeighbours 62 = .ok (.iastore, 1) := by decide +kernel
theorem dX9_measureNeighbours_63 : decode cX9_measureNeighbours 63 = .ok (.iload 4, 2) := by decide +kernel
theorem dX9_measureNeighbours_65 : decode cX9_measureNeighbours 65 = .ok (.iload_n 2, 1) := by decide +kernel
theorem dX9_measureNeighbours_66 : decode cX9_measureNeighbours 66 = .ok (.iload_n 2, 1) := by decide +kernel
theorem dX9_measureNeighbours_67 : decode cX9_measureNeighbours 67 = .ok (.imul, 1) := by decide +kernel
theorem dX9_measureNeighbours_68 : decode cX9_measureNeighbours 68 = .ok (.if_icmp .gt 15, 3) := by decide +kernel
theorem dX9_measureNeighbours_71 : decode cX9_measureNeighbours 71 = .ok (.aload_n 1, 1) := by decide +kernel
theorem dX9_measureNeighbours_72 : decode cX9_measureNeighbours 72 = .ok (.dup, 1) := by decide +kernel
theorem dX9_measureNeighbours_73 : decode cX9_measureNeighbours 73 = .ok (.getfield 102, 3) := by decide +kernel
theorem dX9_measureNeighbours_76 : decode cX9_measureNeighbours 76 = .ok (.iconst 1, 1) := by decide +kernel
theorem dX9_measureNeighbours_77 : decode cX9_measureNeighbours 77 = .ok (.iload_n 3, 1) := by decide +kernel
theorem dX9_measureNeighbours_78 : decode cX9_measureNeighbours 78 = .ok (.ishl, 1) := by decide +kernel
theorem dX9_measureNeighbours_79 : decode cX9_measureNeighbours 79 = .ok (.ior, 1) := by decide +kernel
theorem dX9_measureNeighbours_80 : decode cX9_measureNeighbours 80 = .ok (.putfield 102, 3) := by decide +kernel
theorem dX9_measureNeighbours_83 : decode cX9_measureNeighbours 83 = .ok (.iinc 3 1, 3) := by decide +kernel
theorem dX9_measureNeighbours_86 : decode cX9_measureNeighbours 86 = .ok (.goto (-72), 3) := by decide +kernel
theorem dX9_measureNeighbours_89 : decode cX9_measureNeighbours 89 = .ok (.return_, 1) := by decide +kernel
def f_X9_measureNeighbours_83 (N : Nat) (R : Nat → Nat → Nat) (k14 : SI → Nat → Nat → Int32 → Int32 → Option (Unit × SI)) (σ : SI) (x0 : Nat) (x1 : Nat) (x2 : Int32) (x3 : Int32) : Option (Unit × SI) := k14 σ x0 x1 x2 (x3 + 1)
def f_X9_measureNeighbours_14 (N : Nat) (R : Nat → Nat → Nat) : Nat → SI → Nat → Nat → Int32 → Int32 → Option (Unit × SI)
  | 0, _, _, _, _, _ => none
  | n + 1, σ, x0, x1, x2, x3 => if (σ x0 9) ≤ x3 then (some ((), σ)) else (ck x3 8 (ck x3 8 (bd (f_X11_squareSum N R σ ((σ (R (R x0 0) x3.toNatClampNeg) 2) - (σ x1 4)) ((σ (R (R x0 0) x3.toNatClampNeg) 3) - (σ x1 5))) (fun a9 σ9 => ck x3 8 (sq (up σ9 (R x1 2) x3.toNatClampNeg a9) (fun σ12 => if (x2 * x2) < a9 then (f_X9_measureNeighbours_83 N R (fun σ x0 x1 x2 x3 => f_X9_measureNeighbours_14 N R n σ x0 x1 x2 x3) σ12 x0 x1 x2 x3) else (sq (up σ12 x1 12 ((σ12 x1 12) ||| ((1 : Int32) <<< (x3 &&& 31)))) (fun σ14 => f_X9_measureNeighbours_83 N R (fun σ x0 x1 x2 x3 => f_X9_measureNeighbours_14 N R n σ x0 x1 x2 x3) σ14 x0 x1 x2 x3))))))))
def f_X9_measureNeighbours (N : Nat) (R : Nat → Nat → Nat) (σ : SI) (x0 : Nat) (x1 : Nat) : Option (Unit × SI) := sq (up σ x1 12 (0 : Int32)) (fun σ1 => f_X9_measureNeighbours_14 N R N σ1 x0 x1 ((3 : Int32) * (σ x1 6)) (0 : Int32))
set_option maxHeartbeats 4000000 in
set_option maxRecDepth 100000 in
theorem w_X9_measureNeighbours_83 {l : Launch} {g : GL} {p : Program} {e : Jvm.Env} {s : State} {m : MethodId} {args : Array Value} {below : List Frame} {meth : Method} {c : Code} {R : Nat → Nat → Nat} {L : Nat → Nat → Int64} {r : (Unit × SI)} {N : Nat} {k14 : SI → Nat → Nat → Int32 → Int32 → Option (Unit × SI)} (C : Cx l g p s m meth c cX9_measureNeighbours 5 RX9) (hr : meth.sig.returnType = none) (hSh : ShR R) (hk14 : ∀ (σ : SI) (x0 : Nat) (x1 : Nat) (x2 : Int32) (x3 : Int32), k14 σ x0 x1 x2 x3 = some r → Ok 202 x0 9 → Ok 202 x1 0 → ∀ (H : Heap) (locs : List Loc) (ls : Array Slot), S2 g s σ R L H locs → lv_has ls 5 [(0, .ref (ga g x0)), (1, .ref (ga g x1)), (2, .int x2), (3, .int x3)] → W p l e (rmd 2 0 0) s m args below meth c H locs 0 0 (MQ below (Qg g 202 (PV R L r)) args s 0 0 (gA g)) (F0 m 14 ls [])) : ∀ (σ : SI) (x0 : Nat) (x1 : Nat) (x2 : Int32) (x3 : Int32), f_X9_measureNeighbours_83 N R k14 σ x0 x1 x2 x3 = some r → Ok 202 x0 9 → Ok 202 x1 0 → ∀ (H : Heap) (locs : List Loc) (ls : Array Slot), S2 g s σ R L H locs → lv_has ls 5 [(0, .ref (ga g x0)), (1, .ref (ga g x1)), (2, .int x2), (3, .int x3)] → W p l e (rmd 2 0 0) s m args below meth c H locs 0 0 (MQ below (Qg g 202 (PV R L r)) args s 0 0 (gA g)) (F0 m 83 ls []) := by
  have hx := C.1
  have hb := C.2.1
  intro σ x0 x1 x2 x3 h hx0 hx1 H locs ls S hl
  rw [f_X9_measureNeighbours_83] at h
  refine lv_iinc (v := x3 + 1) (lv' := [(3, .int (x3 + 1)), (0, .ref (ga g x0)), (1, .ref (ga g x1)), (2, .int x2)]) hx hb dX9_measureNeighbours_83 hl (k := 3) rfl rfl (by decide) rfl (fun ls hl => ?_)
  refine lv_goto (tgt := 14) hx hb dX9_measureNeighbours_86 (by decide) ?_
  exact hk14 σ x0 x1 x2 (x3 + 1) h hx0 hx1 H locs ls S (lv_sub hl [1, 2, 3, 0] rfl)
set_option maxHeartbeats 4000000 in
set_option maxRecDepth 100000 in
theorem w_X9_measureNeighbours_14 {l : Launch} {g : GL} {p : Program} {e : Jvm.Env} {s : State} {m : MethodId} {args : Array Value} {below : List Frame} {meth : Method} {c : Code} {R : Nat → Nat → Nat} {L : Nat → Nat → Int64} {r : (Unit × SI)} {N : Nat} (C : Cx l g p s m meth c cX9_measureNeighbours 5 RX9) (hr : meth.sig.returnType = none) (hSh : ShR R) : ∀ (n : Nat) (σ : SI) (x0 : Nat) (x1 : Nat) (x2 : Int32) (x3 : Int32), f_X9_measureNeighbours_14 N R n σ x0 x1 x2 x3 = some r → Ok 202 x0 9 → Ok 202 x1 0 → ∀ (H : Heap) (locs : List Loc) (ls : Array Slot), S2 g s σ R L H locs → lv_has ls 5 [(0, .ref (ga g x0)), (1, .ref (ga g x1)), (2, .int x2), (3, .int x3)] → W p l e (rmd 2 0 0) s m args below meth c H locs 0 0 (MQ below (Qg g 202 (PV R L r)) args s 0 0 (gA g)) (F0 m 14 ls []) := by
  have hx := C.1
  have hb := C.2.1
  intro n
  induction n with
  | zero =>
    intro σ x0 x1 x2 x3 h
    cases (show (none : Option (Unit × SI)) = some r from h)
  | succ n ih =>
    intro σ x0 x1 x2 x3 h hx0 hx1 H locs ls S hl
    rw [f_X9_measureNeighbours_14] at h
    refine lv_iload_n hx hb dX9_measureNeighbours_14 rfl (lv_at hl 3 rfl) ?_
    refine lv_aload_n hx hb dX9_measureNeighbours_15 rfl (lv_at hl 0 rfl) ?_
    refine x_getI C S KX9 hx0 9 (by decide) rfl rfl fl_RX9_54 dX9_measureNeighbours_16 ?_
    refine lv_icmp_ge (tgt := 89) hx hb dX9_measureNeighbours_19 (by decide) (fun c2 => ?_) (fun c2 => ?_)
    · have h := it_p c2 h
      exact x_vret C S hr h dX9_measureNeighbours_89
    · have h := it_n c2 h
      refine lv_aload_n hx hb dX9_measureNeighbours_22 rfl (lv_at hl 0 rfl) ?_
      have hR3 : Ok 202 (R x0 0) 60008 := hSh x0 9 0 60008 hx0.1 rfl
      refine x_getR C S KX9 hx0 0 (by decide) rfl rfl fl_RX9_11 hR3 dX9_measureNeighbours_23 ?_
      refine lv_iload_n hx hb dX9_measureNeighbours_26 rfl (lv_at hl 3 rfl) ?_
      obtain ⟨hi4, h⟩ := ck_el h
      have hR5 : Ok 202 (R (R x0 0) x3.toNatClampNeg) 4 := hSh (R x0 0) 60008 x3.toNatClampNeg 4 hR3.1 (if_pos (vp_lt hi4))
      refine x_aald (len := 8) C S (by decide) 5 (by decide) rfl hR3 hi4 hR5 dX9_measureNeighbours_27 ?_
      refine x_getI C S KX4 hR5 2 (by decide) rfl rfl fl_RX9_105 dX9_measureNeighbours_28 ?_
      refine lv_aload_n hx hb dX9_measureNeighbours_31 rfl (lv_at hl 1 rfl) ?_
      refine x_getI C S KX0 hx1 4 (by decide) rfl rfl fl_RX9_108 dX9_measureNeighbours_32 ?_
      refine lv_isub hx hb dX9_measureNeighbours_35 ?_
      refine lv_aload_n hx hb dX9_measureNeighbours_36 rfl (lv_at hl 0 rfl) ?_
      have hR6 : Ok 202 (R x0 0) 60008 := hSh x0 9 0 60008 hx0.1 rfl
      refine x_getR C S KX9 hx0 0 (by decide) rfl rfl fl_RX9_11 hR6 dX9_measureNeighbours_37 ?_
      refine lv_iload_n hx hb dX9_measureNeighbours_40 rfl (lv_at hl 3 rfl) ?_
      obtain ⟨hi7, h⟩ := ck_el h
      have hR8 : Ok 202 (R (R x0 0) x3.toNatClampNeg) 4 := hSh (R x0 0) 60008 x3.toNatClampNeg 4 hR6.1 (if_pos (vp_lt hi7))
      refine x_aald (len := 8) C S (by decide) 5 (by decide) rfl hR6 hi7 hR8 dX9_measureNeighbours_41 ?_
      refine x_getI C S KX4 hR8 3 (by decide) rfl rfl fl_RX9_109 dX9_measureNeighbours_42 ?_
      refine lv_aload_n hx hb dX9_measureNeighbours_45 rfl (lv_at hl 1 rfl) ?_
      refine x_getI C S KX0 hx1 5 (by decide) rfl rfl fl_RX9_112 dX9_measureNeighbours_46 ?_
      refine lv_isub hx hb dX9_measureNeighbours_49 ?_
      obtain ⟨a9, σ9, hc9, h⟩ := bd_el h
      refine x_callNI C S (ok_X11_squareSum (L := L) hc9 hSh) ⟨cd_X11_squareSum, ni_RX11, mn_RX9_113, st_X11_squareSum⟩ ⟨by decide, by decide⟩ rfl (rm_ok (by decide) (by decide)) hl.1 rfl (Nat.le_of_ble_eq_true rfl) ⟨by decide, by decide⟩ dX9_measureNeighbours_50 (fun H locs S => ?_)
      refine lv_istore (lv' := [(4, .int a9), (0, .ref (ga g x0)), (1, .ref (ga g x1)), (2, .int x2), (3, .int x3)]) hx hb dX9_measureNeighbours_53 hl (by decide) rfl (fun ls hl => ?_)
      refine lv_aload_n hx hb dX9_measureNeighbours_55 rfl (lv_at hl 2 rfl) ?_
      have hR10 : Ok 202 (R x1 2) 10008 := hSh x1 0 2 10008 hx1.1 rfl
      refine x_getR C S KX0 hx1 2 (by decide) rfl rfl fl_RX9_117 hR10 dX9_measureNeighbours_56 ?_
      refine lv_iload_n hx hb dX9_measureNeighbours_59 rfl (lv_at hl 4 rfl) ?_
      refine lv_iload hx hb dX9_measureNeighbours_60 (lv_at hl 0 rfl) ?_
      obtain ⟨hi11, h⟩ := ck_el h
      obtain ⟨σ12, hs12, h⟩ := sq_el h
      refine x_iast (len := 8) C S (by decide) hR10 hi11 dX9_measureNeighbours_62 hs12 (fun H locs S => ?_)
      refine lv_iload hx hb dX9_measureNeighbours_63 (lv_at hl 0 rfl) ?_
      refine lv_iload_n hx hb dX9_measureNeighbours_65 rfl (lv_at hl 3 rfl) ?_
      refine lv_iload_n hx hb dX9_measureNeighbours_66 rfl (lv_at hl 3 rfl) ?_
      refine lv_imul hx hb dX9_measureNeighbours_67 ?_
      refine lv_icmp_gt (tgt := 83) hx hb dX9_measureNeighbours_68 (by decide) (fun c13 => ?_) (fun c13 => ?_)
      · have h := it_p c13 h
        exact w_X9_measureNeighbours_83 C hr hSh ih σ12 x0 x1 x2 x3 h hx0 hx1 H locs ls S (lv_sub hl [1, 2, 3, 4] rfl)
      · have h := it_n c13 h
        refine lv_aload_n hx hb dX9_measureNeighbours_71 rfl (lv_at hl 2 rfl) ?_
        refine lv_dup hx hb dX9_measureNeighbours_72 rfl ?_
        refine x_getI C S KX0 hx1 12 (by decide) rfl rfl fl_RX9_102 dX9_measureNeighbours_73 ?_
        refine lv_iconst (v := (1 : Int32)) hx hb dX9_measureNeighbours_76 (by decide) ?_
        refine lv_iload_n hx hb dX9_measureNeighbours_77 rfl (lv_at hl 4 rfl) ?_
        refine lv_ishl hx hb dX9_measureNeighbours_78 ?_
        refine lv_ior hx hb dX9_measureNeighbours_79 ?_
        obtain ⟨σ14, hs14, h⟩ := sq_el h
        refine x_putI C S KX0 hx1 12 (by decide) rfl rfl rfl ⟨rfl, rfl⟩ fl_RX9_102 dX9_measureNeighbours_80 hs14 (fun H locs S => ?_)
        exact w_X9_measureNeighbours_83 C hr hSh ih σ14 x0 x1 x2 x3 h hx0 hx1 H locs ls S (lv_sub hl [1, 2, 3, 4] rfl)
set_option maxHeartbeats 4000000 in
set_option maxRecDepth 100000 in
theorem ok_X9_measureNeighbours {l : Launch} {g : GL} {R : Nat → Nat → Nat} {L : Nat → Nat → Int64} {N : Nat} {σ : SI} {x0 : Nat} {x1 : Nat} {r : (Unit × SI)} (h : f_X9_measureNeighbours N R σ x0 x1 = some r) (hSh : ShR R) (hx0 : Ok 202 x0 9) (hx1 : Ok 202 x1 0) : Ct l g 2 yX9_measureNeighbours cX9_measureNeighbours 5 none 202 202 0 0 [.ref (ga g x0), .ref (ga g x1)] (mkS σ R L) (PV R L r) := by
  refine Met.ofW (cc := cX9_measureNeighbours) (maxL := 5) (ret := none) (by decide) rfl ?_
  intro p e s m args below meth c s₁ B hml hv
  obtain ⟨rfl, hE, hLo, hWd⟩ := hv
  have hr : meth.sig.returnType = none := B.returns
  have C : Cx l g p s m meth c cX9_measureNeighbours 5 RX9 := ⟨B.exec, B.bytes, hml, findClass_of_methodNamed B.named, hE, hLo, B.notSynchronized⟩
  have S : S2 g s σ R L s.heap [] := ⟨hWd, va_S.rf⟩
  have hx := C.1
  have hb := C.2.1
  have hl := lv_entry ([.ref (ga g x0), .ref (ga g x1)]) (n := 5) (Nat.le_of_ble_eq_true rfl)
  rw [lg_entry_eq]
  generalize (lg_sl ([.ref (ga g x0), .ref (ga g x1)]) ++ List.replicate (5 - (lg_sl ([.ref (ga g x0), .ref (ga g x1)])).length) Slot.unset).toArray = ls at hl ⊢
  have hl : lv_has ls 5 [(0, .ref (ga g x0)), (1, .ref (ga g x1))] := hl
  generalize hH : s.heap = H at S ⊢
  generalize hlc : ([] : List Loc) = locs at S ⊢
  rw [f_X9_measureNeighbours] at h
  refine lv_iconst (v := (3 : Int32)) hx hb dX9_measureNeighbours_0 (by decide) ?_
  refine lv_aload_n hx hb dX9_measureNeighbours_1 rfl (lv_at hl 1 rfl) ?_
  refine x_getI C S KX0 hx1 6 (by decide) rfl rfl fl_RX9_99 dX9_measureNeighbours_2 ?_
  refine lv_imul hx hb dX9_measureNeighbours_5 ?_
  refine lv_istore_n (lv' := [(2, .int ((3 : Int32) * (σ x1 6))), (0, .ref (ga g x0)), (1, .ref (ga g x1))]) hx hb dX9_measureNeighbours_6 rfl hl (by decide) rfl (fun ls hl => ?_)
  refine lv_aload_n hx hb dX9_measureNeighbours_7 rfl (lv_at hl 2 rfl) ?_
  refine lv_iconst (v := (0 : Int32)) hx hb dX9_measureNeighbours_8 (by decide) ?_
  obtain ⟨σ1, hs1, h⟩ := sq_el h
  refine x_putI C S KX0 hx1 12 (by decide) rfl rfl rfl ⟨rfl, rfl⟩ fl_RX9_102 dX9_measureNeighbours_9 hs1 (fun H locs S => ?_)
  refine lv_iconst (v := (0 : Int32)) hx hb dX9_measureNeighbours_12 (by decide) ?_
  refine lv_istore_n (lv' := [(3, .int (0 : Int32)), (2, .int ((3 : Int32) * (σ x1 6))), (0, .ref (ga g x0)), (1, .ref (ga g x1))]) hx hb dX9_measureNeighbours_13 rfl hl (by decide) rfl (fun ls hl => ?_)
  exact w_X9_measureNeighbours_14 C hr hSh N σ1 x0 x1 ((3 : Int32) * (σ x1 6)) (0 : Int32) h hx0 hx1 H locs ls S (lv_sub hl [2, 3, 1, 0] rfl)
theorem dX9_measureRoads_0 : decode cX9_measureRoads 0 = .ok (.aload_n 1, 1) := by decide +kernel
theorem dX9_measureRoads_1 : decode cX9_measureRoads 1 = .ok (.iconst 0, 1) := by decide +kernel
theorem dX9_measureRoads_2 : decode cX9_measureRoads 2 = .ok (.putfield 120, 3) := by decide +kernel
theorem dX9_measureRoads_5 : decode cX9_measureRoads 5 = .ok (.iconst 0, 1) := by decide +kernel
theorem dX9_measureRoads_6 : decode cX9_measureRoads 6 = .ok (.istore_n 2, 1) := by decide +kernel
theorem dX9_measureRoads_7 : decode cX9_measureRoads 7 = .ok (.iload_n 2, 1) := by decide +kernel
theorem dX9_measureRoads_8 : decode cX9_measureRoads 8 = .ok (.aload_n 0, 1) := by decide +kernel
theorem dX9_measureRoads_9 : decode cX9_measureRoads 9 = .ok (.getfield 58, 3) := by decide +kernel
theorem dX9_measureRoads_12 : decode cX9_measureRoads 12 = .ok (.if_icmp .ge 45, 3) := by decide +kernel
theorem dX9_measureRoads_15 : decode cX9_measureRoads 15 = .ok (.aload_n 0, 1) := by decide +kernel
theorem dX9_measureRoads_16 : decode cX9_measureRoads 16 = .ok (.getfield 19, 3) := by decide +kernel
theorem dX9_measureRoads_19 : decode cX9_measureRoads 19 = .ok (.iload_n 2, 1) := by decide +kernel
theorem dX9_measureRoads_20 : decode cX9_measureRoads 20 = .ok (.aaload, 1) := by decide +kernel
theorem dX9_measureRoads_21 : decode cX9_measureRoads 21 = .ok (.aload_n 1, 1) := by decide +kernel
theorem dX9_measureRoads_22 : decode cX9_measureRoads 22 = .ok (.getfield 108, 3) := by decide +kernel
theorem dX9_measureRoads_25 : decode cX9_measureRoads 25 = .ok (.aload_n 1, 1) := by decide +kernel
theorem dX9_measureRoads_26 : decode cX9_measureRoads 26 = .ok (.getfield 112, 3) := by decide +kernel
theorem dX9_measureRoads_29 : decode cX9_measureRoads 29 = .ok (.aload_n 1, 1) := by decide +kernel
theorem dX9_measureRoads_30 : decode cX9_measureRoads 30 = .ok (.getfield 99, 3) := by decide +kernel
theorem dX9_measureRoads_33 : decode cX9_measureRoads 33 = .ok (.invokevirtual 123, 3) := by decide +kernel
theorem dX9_measureRoads_36 : decode cX9_measureRoads 36 = .ok (.ifCond .eq 15, 3) := by decide +kernel
theorem dX9_measureRoads_39 : decode cX9_measureRoads 39 = .ok (.aload_n 1, 1) := by decide +kernel
theorem dX9_measureRoads_40 : decode cX9_measureRoads 40 = .ok (.dup, 1) := by decide +kernel
theorem dX9_measureRoads_41 : decode cX9_measureRoads 41 = .ok (.getfield 120, 3) := by decide +kernel
theorem dX9_measureRoads_44 : decode cX9_measureRoads 44 = .ok (.iconst 1, 1) := by decide +kernel
theorem dX9_measureRoads_45 : decode cX9_measureRoads 45 = .ok (.iload_n 2, 1) := by decide +kernel
theorem dX9_measureRoads_46 : decode cX9_measureRoads 46 = .ok (.ishl, 1) := by decide +kernel
theorem dX9_measureRoads_47 : decode cX9_measureRoads 47 = .ok (.ior, 1) := by decide +kernel
theorem dX9_measureRoads_48 : decode cX9_measureRoads 48 = .ok (.putfield 120, 3) := by decide +kernel
theorem dX9_measureRoads_51 : decode cX9_measureRoads 51 = .ok (.iinc 2 1, 3) := by decide +kernel
theorem dX9_measureRoads_54 : decode cX9_measureRoads 54 = .ok (.goto (-47), 3) := by decide +kernel
theorem dX9_measureRoads_57 : decode cX9_measureRoads 57 = .ok (.return_, 1) := by decide +kernel
def f_X9_measureRoads_51 (N : Nat) (R : Nat → Nat → Nat) (k7 : SI → Nat → Nat → Int32 → Option (Unit × SI)) (σ : SI) (x0 : Nat) (x1 : Nat) (x2 : Int32) : Option (Unit × SI) := k7 σ x0 x1 (x2 + 1)
def f_X9_measureRoads_7 (N : Nat) (R : Nat → Nat → Nat) : Nat → SI → Nat → Nat → Int32 → Option (Unit × SI)
  | 0, _, _, _, _ => none
  | n + 1, σ, x0, x1, x2 => if (σ x0 10) ≤ x2 then (some ((), σ)) else (ck x2 6 (bd (f_X7_comesWithin N R σ (R (R x0 1) x2.toNatClampNeg) (σ x1 4) (σ x1 5) (σ x1 6)) (fun a6 σ6 => if a6 = 0 then (f_X9_measureRoads_51 N R (fun σ x0 x1 x2 => f_X9_measureRoads_7 N R n σ x0 x1 x2) σ6 x0 x1 x2) else (sq (up σ6 x1 11 ((σ6 x1 11) ||| ((1 : Int32) <<< (x2 &&& 31)))) (fun σ8 => f_X9_measureRoads_51 N R (fun σ x0 x1 x2 => f_X9_measureRoads_7 N R n σ x0 x1 x2) σ8 x0 x1 x2)))))
def f_X9_measureRoads (N : Nat) (R : Nat → Nat → Nat) (σ : SI) (x0 : Nat) (x1 : Nat) : Option (Unit × SI) := sq (up σ x1 11 (0 : Int32)) (fun σ1 => f_X9_measureRoads_7 N R N σ1 x0 x1 (0 : Int32))
set_option maxHeartbeats 4000000 in
set_option maxRecDepth 100000 in
theorem w_X9_measureRoads_51 {l : Launch} {g : GL} {p : Program} {e : Jvm.Env} {s : State} {m : MethodId} {args : Array Value} {below : List Frame} {meth : Method} {c : Code} {R : Nat → Nat → Nat} {L : Nat → Nat → Int64} {r : (Unit × SI)} {N : Nat} {k7 : SI → Nat → Nat → Int32 → Option (Unit × SI)} (C : Cx l g p s m meth c cX9_measureRoads 3 RX9) (hr : meth.sig.returnType = none) (hSh : ShR R) (hk7 : ∀ (σ : SI) (x0 : Nat) (x1 : Nat) (x2 : Int32), k7 σ x0 x1 x2 = some r → Ok 202 x0 9 → Ok 202 x1 0 → ∀ (H : Heap) (locs : List Loc) (ls : Array Slot), S2 g s σ R L H locs → lv_has ls 3 [(0, .ref (ga g x0)), (1, .ref (ga g x1)), (2, .int x2)] → W p l e (rmd 3 0 0) s m args below meth c H locs 0 0 (MQ below (Qg g 202 (PV R L r)) args s 0 0 (gA g)) (F0 m 7 ls [])) : ∀ (σ : SI) (x0 : Nat) (x1 : Nat) (x2 : Int32), f_X9_measureRoads_51 N R k7 σ x0 x1 x2 = some r → Ok 202 x0 9 → Ok 202 x1 0 → ∀ (H : Heap) (locs : List Loc) (ls : Array Slot), S2 g s σ R L H locs → lv_has ls 3 [(0, .ref (ga g x0)), (1, .ref (ga g x1)), (2, .int x2)] → W p l e (rmd 3 0 0) s m args below meth c H locs 0 0 (MQ below (Qg g 202 (PV R L r)) args s 0 0 (gA g)) (F0 m 51 ls []) := by
  have hx := C.1
  have hb := C.2.1
  intro σ x0 x1 x2 h hx0 hx1 H locs ls S hl
  rw [f_X9_measureRoads_51] at h
  refine lv_iinc (v := x2 + 1) (lv' := [(2, .int (x2 + 1)), (0, .ref (ga g x0)), (1, .ref (ga g x1))]) hx hb dX9_measureRoads_51 hl (k := 2) rfl rfl (by decide) rfl (fun ls hl => ?_)
  refine lv_goto (tgt := 7) hx hb dX9_measureRoads_54 (by decide) ?_
  exact hk7 σ x0 x1 (x2 + 1) h hx0 hx1 H locs ls S (lv_sub hl [1, 2, 0] rfl)
set_option maxHeartbeats 4000000 in
set_option maxRecDepth 100000 in
theorem w_X9_measureRoads_7 {l : Launch} {g : GL} {p : Program} {e : Jvm.Env} {s : State} {m : MethodId} {args : Array Value} {below : List Frame} {meth : Method} {c : Code} {R : Nat → Nat → Nat} {L : Nat → Nat → Int64} {r : (Unit × SI)} {N : Nat} (C : Cx l g p s m meth c cX9_measureRoads 3 RX9) (hr : meth.sig.returnType = none) (hSh : ShR R) : ∀ (n : Nat) (σ : SI) (x0 : Nat) (x1 : Nat) (x2 : Int32), f_X9_measureRoads_7 N R n σ x0 x1 x2 = some r → Ok 202 x0 9 → Ok 202 x1 0 → ∀ (H : Heap) (locs : List Loc) (ls : Array Slot), S2 g s σ R L H locs → lv_has ls 3 [(0, .ref (ga g x0)), (1, .ref (ga g x1)), (2, .int x2)] → W p l e (rmd 3 0 0) s m args below meth c H locs 0 0 (MQ below (Qg g 202 (PV R L r)) args s 0 0 (gA g)) (F0 m 7 ls []) := by
  have hx := C.1
  have hb := C.2.1
  intro n
  induction n with
  | zero =>
    intro σ x0 x1 x2 h
    cases (show (none : Option (Unit × SI)) = some r from h)
  | succ n ih =>
    intro σ x0 x1 x2 h hx0 hx1 H locs ls S hl
    rw [f_X9_measureRoads_7] at h
    refine lv_iload_n hx hb dX9_measureRoads_7 rfl (lv_at hl 2 rfl) ?_
    refine lv_aload_n hx hb dX9_measureRoads_8 rfl (lv_at hl 0 rfl) ?_
    refine x_getI C S KX9 hx0 10 (by decide) rfl rfl fl_RX9_58 dX9_measureRoads_9 ?_
    refine lv_icmp_ge (tgt := 57) hx hb dX9_measureRoads_12 (by decide) (fun c2 => ?_) (fun c2 => ?_)
    · have h := it_p c2 h
      exact x_vret C S hr h dX9_measureRoads_57
    · have h := it_n c2 h
      refine lv_aload_n hx hb dX9_measureRoads_15 rfl (lv_at hl 0 rfl) ?_
      have hR3 : Ok 202 (R x0 1) 70006 := hSh x0 9 1 70006 hx0.1 rfl
      refine x_getR C S KX9 hx0 1 (by decide) rfl rfl fl_RX9_19 hR3 dX9_measureRoads_16 ?_
      refine lv_iload_n hx hb dX9_measureRoads_19 rfl (lv_at hl 2 rfl) ?_
      obtain ⟨hi4, h⟩ := ck_el h
      have hR5 : Ok 202 (R (R x0 1) x2.toNatClampNeg) 7 := hSh (R x0 1) 70006 x2.toNatClampNeg 7 hR3.1 (if_pos (vp_lt hi4))
      refine x_aald (len := 6) C S (by decide) 6 (by decide) rfl hR3 hi4 hR5 dX9_measureRoads_20 ?_
      refine lv_aload_n hx hb dX9_measureRoads_21 rfl (lv_at hl 1 rfl) ?_
      refine x_getI C S KX0 hx1 4 (by decide) rfl rfl fl_RX9_108 dX9_measureRoads_22 ?_
      refine lv_aload_n hx hb dX9_measureRoads_25 rfl (lv_at hl 1 rfl) ?_
      refine x_getI C S KX0 hx1 5 (by decide) rfl rfl fl_RX9_112 dX9_measureRoads_26 ?_
      refine lv_aload_n hx hb dX9_measureRoads_29 rfl (lv_at hl 1 rfl) ?_
      refine x_getI C S KX0 hx1 6 (by decide) rfl rfl fl_RX9_99 dX9_measureRoads_30 ?_
      obtain ⟨a6, σ6, hc6, h⟩ := bd_el h
      refine x_callVI C S KX7 hR5 (ok_X7_comesWithin (L := L) hc6 hSh hR5) ⟨cd_X7_comesWithin, ni_RX7, ml_RX9_123, in_X7_comesWithin, sl_X7_comesWithin⟩ ⟨by decide, by decide⟩ rfl (rm_ok (by decide) (by decide)) hl.1 rfl (Nat.le_of_ble_eq_true rfl) ⟨by decide, by decide⟩ dX9_measureRoads_33 (fun H locs S => ?_)
      refine lv_if_eq (tgt := 51) hx hb dX9_measureRoads_36 (by decide) (fun c7 => ?_) (fun c7 => ?_)
      · have h := it_p c7 h
        exact w_X9_measureRoads_51 C hr hSh ih σ6 x0 x1 x2 h hx0 hx1 H locs ls S (lv_sub hl [0, 1, 2] rfl)
      · have h := it_n c7 h
        refine lv_aload_n hx hb dX9_measureRoads_39 rfl (lv_at hl 1 rfl) ?_
        refine lv_dup hx hb dX9_measureRoads_40 rfl ?_
        refine x_getI C S KX0 hx1 11 (by decide) rfl rfl fl_RX9_120 dX9_measureRoads_41 ?_
        refine lv_iconst (v := (1 : Int32)) hx hb dX9_measureRoads_44 (by decide) ?_
        refine lv_iload_n hx hb dX9_measureRoads_45 rfl (lv_at hl 2 rfl) ?_
        refine lv_ishl hx hb dX9_measureRoads_46 ?_
        refine lv_ior hx hb dX9_measureRoads_47 ?_
        obtain ⟨σ8, hs8, h⟩ := sq_el h
        refine x_putI C S KX0 hx1 11 (by decide) rfl rfl rfl ⟨rfl, rfl⟩ fl_RX9_120 dX9_measureRoads_48 hs8 (fun H locs S => ?_)
        exact w_X9_measureRoads_51 C hr hSh ih σ8 x0 x1 x2 h hx0 hx1 H locs ls S (lv_sub hl [0, 1, 2] rfl)
set_option maxHeartbeats 4000000 in
set_option maxRecDepth 100000 in
theorem ok_X9_measureRoads {l : Launch} {g : GL} {R : Nat → Nat → Nat} {L : Nat → Nat → Int64} {N : Nat} {σ : SI} {x0 : Nat} {x1 : Nat} {r : (Unit × SI)} (h : f_X9_measureRoads N R σ x0 x1 = some r) (hSh : ShR R) (hx0 : Ok 202 x0 9) (hx1 : Ok 202 x1 0) : Ct l g 3 yX9_measureRoads cX9_measureRoads 3 none 202 202 0 0 [.ref (ga g x0), .ref (ga g x1)] (mkS σ R L) (PV R L r) := by
  refine Met.ofW (cc := cX9_measureRoads) (maxL := 3) (ret := none) (by decide) rfl ?_
  intro p e s m args below meth c s₁ B hml hv
  obtain ⟨rfl, hE, hLo, hWd⟩ := hv
  have hr : meth.sig.returnType = none := B.returns
  have C : Cx l g p s m meth c cX9_measureRoads 3 RX9 := ⟨B.exec, B.bytes, hml, findClass_of_methodNamed B.named, hE, hLo, B.notSynchronized⟩
  have S : S2 g s σ R L s.heap [] := ⟨hWd, va_S.rf⟩
  have hx := C.1
  have hb := C.2.1
  have hl := lv_entry ([.ref (ga g x0), .ref (ga g x1)]) (n := 3) (Nat.le_of_ble_eq_true rfl)
  rw [lg_entry_eq]
  generalize (lg_sl ([.ref (ga g x0), .ref (ga g x1)]) ++ List.replicate (3 - (lg_sl ([.ref (ga g x0), .ref (ga g x1)])).length) Slot.unset).toArray = ls at hl ⊢
  have hl : lv_has ls 3 [(0, .ref (ga g x0)), (1, .ref (ga g x1))] := hl
  generalize hH : s.heap = H at S ⊢
  generalize hlc : ([] : List Loc) = locs at S ⊢
  rw [f_X9_measureRoads] at h
  refine lv_aload_n hx hb dX9_measureRoads_0 rfl (lv_at hl 1 rfl) ?_
  refine lv_iconst (v := (0 : Int32)) hx hb dX9_measureRoads_1 (by decide) ?_
  obtain ⟨σ1, hs1, h⟩ := sq_el h
  refine x_putI C S KX0 hx1 11 (by decide) rfl rfl rfl ⟨rfl, rfl⟩ fl_RX9_120 dX9_measureRoads_2 hs1 (fun H locs S => ?_)
  refine lv_iconst (v := (0 : Int32)) hx hb dX9_measureRoads_5 (by decide) ?_
  refine lv_istore_n (lv' := [(2, .int (0 : Int32)), (0, .ref (ga g x0)), (1, .ref (ga g x1))]) hx hb dX9_measureRoads_6 rfl hl (by decide) rfl (fun ls hl => ?_)
  exact w_X9_measureRoads_7 C hr hSh N σ1 x0 x1 (0 : Int32) h hx0 hx1 H locs ls S (lv_sub hl [1, 2, 0] rfl)
theorem dX9_neighboursInDust_0 : decode cX9_neighboursInDust 0 = .ok (.aload_n 0, 1) := by decide +kernel
theorem dX9_neighboursInDust_1 : decode cX9_neighboursInDust 1 = .ok (.getfield 42, 3) := by decide +kernel
theorem dX9_neighboursInDust_4 : decode cX9_neighboursInDust 4 = .ok (.iload_n 2, 1) := by decide +kernel
theorem dX9_neighboursInDust_5 : decode cX9_neighboursInDust 5 = .ok (.iaload, 1) := by decide +kernel
theorem dX9_neighboursInDust_6 : decode cX9_neighboursInDust 6 = .ok (.istore_n 3, 1) := by decide +kernel
theorem dX9_neighboursInDust_7 : decode cX9_neighboursInDust 7 = .ok (.iload_n 3, 1) := by decide +kernel
theorem dX9_neighboursInDust_8 : decode cX9_neighboursInDust 8 = .ok (.ifCond .lt 11, 3) := by decide +kernel
theorem dX9_neighboursInDust_11 : decode cX9_neighboursInDust 11 = .ok (.iload_n 3, 1) := by decide +kernel
theorem dX9_neighboursInDust_12 : decode cX9_neighboursInDust 12 = .ok (.getstatic 127, 3) := by decide +kernel
theorem dX9_neighboursInDust_15 : decode cX9_neighboursInDust 15 = .ok (.arraylength, 1) := by decide +kernel
theorem dX9_neighboursInDust_16 : decode cX9_neighboursInDust 16 = .ok (.if_icmp .lt 5, 3) := by decide +kernel
theorem dX9_neighboursInDust_19 : decode cX9_neighboursInDust 19 = .ok (.iconst 0, 1) := by decide +kernel
theorem dX9_neighboursInDust_20 : decode cX9_neighboursInDust 20 = .ok (.ireturn, 1) := by decide +kernel
theorem dX9_neighboursInDust_21 : decode cX9_neighboursInDust 21 = .ok (.bipush 50, 2) := by decide +kernel
theorem dX9_neighboursInDust_23 : decode cX9_neighboursInDust 23 = .ok (.aload_n 0, 1) := by decide +kernel
theorem dX9_neighboursInDust_24 : decode cX9_neighboursInDust 24 = .ok (.getfield 45, 3) := by decide +kernel
theorem dX9_neighboursInDust_27 : decode cX9_neighboursInDust 27 = .ok (.iload_n 2, 1) := by decide +kernel
theorem dX9_neighboursInDust_28 : decode cX9_neighboursInDust 28 = .ok (.iaload, 1) := by decide +kernel
theorem dX9_neighboursInDust_29 : decode cX9_neighboursInDust 29 = .ok (.imul, 1) := by decide +kernel
theorem dX9_neighboursInDust_30 : decode cX9_neighboursInDust 30 = .ok (.istore 4, 2) := by decide +kernel
theorem dX9_neighboursInDust_32 : decode cX9_neighboursInDust 32 = .ok (.iconst 0, 1) := by decide +kernel
theorem dX9_neighboursInDust_33 : decode cX9_neighboursInDust 33 = .ok (.istore 5, 2) := by decide +kernel
theorem dX9_neighboursInDust_35 : decode cX9_neighboursInDust 35 = .ok (.iconst 0, 1) := by decide +kernel
theorem dX9_neighboursInDust_36 : decode cX9_neighboursInDust 36 = .ok (.istore 6, 2) := by decide +kernel
theorem dX9_neighboursInDust_38 : decode cX9_neighboursInDust 38 = .ok (.iload 6, 2) := by decide +kernel
theorem dX9_neighboursInDust_40 : decode cX9_neighboursInDust 40 = .ok (.aload_n 0, 1) := by decide +kernel
theorem dX9_neighboursInDust_41 : decode cX9_neighboursInDust 41 = .ok (.getfield 54, 3) := by decide +kernel
theorem dX9_neighboursInDust_44 : decode cX9_neighboursInDust 44 = .ok (.if_icmp .ge 120, 3) := by decide +kernel
theorem dX9_neighboursInDust_47 : decode cX9_neighboursInDust 47 = .ok (.aload_n 0, 1) := by decide +kernel
theorem dX9_neighboursInDust_48 : decode cX9_neighboursInDust 48 = .ok (.getfield 11, 3) := by decide +kernel
theorem dX9_neighboursInDust_51 : decode cX9_neighboursInDust 51 = .ok (.iload 6, 2) := by decide +kernel
theorem dX9_neighboursInDust_53 : decode cX9_neighboursInDust 53 = .ok (.aaload, 1) := by decide +kernel
theorem dX9_neighboursInDust_54 : decode cX9_neighboursInDust 54 = .ok (.getfield 105, 3) := by decide +kernel
theorem dX9_neighboursInDust_57 : decode cX9_neighboursInDust 57 = .ok (.aload_n 1, 1) := by decide +kernel
theorem dX9_neighboursInDust_58 : decode cX9_neighboursInDust 58 = .ok (.getfield 108, 3) := by decide +kernel
theorem dX9_neighboursInDust_61 : decode cX9_neighboursInDust 61 = .ok (.isub, 1) := by decide +kernel
theorem dX9_neighboursInDust_62 : decode cX9_neighboursInDust 62 = .ok (.istore 7, 2) := by decide +kernel
theorem dX9_neighboursInDust_64 : decode cX9_neighboursInDust 64 = .ok (.aload_n 0, 1) := by decide +kernel
theorem dX9_neighboursInDust_65 : decode cX9_neighboursInDust 65 = .ok (.getfield 11, 3) := by decide +kernel
theorem dX9_neighboursInDust_68 : decode cX9_neighboursInDust 68 = .ok (.iload 6, 2) := by decide +kernel
theorem dX9_neighboursInDust_70 : decode cX9_neighboursInDust 70 = .ok (.aaload, 1) := by decide +kernel
theorem dX9_neighboursInDust_71 : decode cX9_neighboursInDust 71 = .ok (.getfield 109, 3) := by decide +kernel
theorem dX9_neighboursInDust_74 : decode cX9_neighboursInDust 74 = .ok (.aload_n 1, 1) := by decide +kernel
theorem dX9_neighboursInDust_75 : decode cX9_neighboursInDust 75 = .ok (.getfield 112, 3) := by decide +kernel
theorem dX9_neighboursInDust_78 : decode cX9_neighboursInDust 78 = .ok (.isub, 1) := by decide +kernel
theorem dX9_neighboursInDust_79 : decode cX9_neighboursInDust 79 = .ok (.istore 8, 2) := by decide +kernel
theorem dX9_neighboursInDust_81 : decode cX9_neighboursInDust 81 = .ok (.iload 7, 2) := by decide +kernel
theorem dX9_neighboursInDust_83 : decode cX9_neighboursInDust 83 = .ok (.getstatic 127, 3) := by decide +kernel
theorem dX9_neighboursInDust_86 : decode cX9_neighboursInDust 86 = .ok (.iload_n 3, 1) := by decide +kernel
theorem dX9_neighboursInDust_87 : decode cX9_neighboursInDust 87 = .ok (.iaload, 1) := by decide +kernel
theorem dX9_neighboursInDust_88 : decode cX9_neighboursInDust 88 = .ok (.imul, 1) := by decide +kernel
theorem dX9_neighboursInDust_89 : decode cX9_neighboursInDust 89 = .ok (.iload 8, 2) := by decide +kernel
theorem dX9_neighboursInDust_91 : decode cX9_neighboursInDust 91 = .ok (.getstatic 130, 3) := by decide +kernel
theorem dX9_neighboursInDust_94 : decode cX9_neighboursInDust 94 = .ok (.iload_n 3, 1) := by decide +kernel
theorem dX9_neighboursInDust_95 : decode cX9_neighboursInDust 95 = .ok (.iaload, 1) := by decide +kernel
theorem dX9_neighboursInDust_96 : decode cX9_neighboursInDust 96 = .ok (.imul, 1) := by decide +kernel
theorem dX9_neighboursInDust_97 : decode cX9_neighboursInDust 97 = .ok (.iadd, 1) := by decide +kernel
theorem dX9_neighboursInDust_98 : decode cX9_neighboursInDust 98 = .ok (.istore 9, 2) := by decide +kernel
theorem dX9_neighboursInDust_100 : decode cX9_neighboursInDust 100 = .ok (.iload 7, 2) := by decide +kernel
theorem dX9_neighboursInDust_102 : decode cX9_neighboursInDust 102 = .ok (.getstatic 130, 3) := by decide +kernel
theorem dX9_neighboursInDust_105 : decode cX9_neighboursInDust 105 = .ok (.iload_n 3, 1) := by decide +kernel
theorem dX9_neighboursInDust_106 : decode cX9_neighboursInDust 106 = .ok (.iaload, 1) := by decide +kernel
theorem dX9_neighboursInDust_107 : decode cX9_neighboursInDust 107 = .ok (.imul, 1) := by decide +kernel
theorem dX9_neighboursInDust_108 : decode cX9_neighboursInDust 108 = .ok (.iload 8, 2) := by decide +kernel
theorem dX9_neighboursInDust_110 : decode cX9_neighboursInDust 110 = .ok (.getstatic 127, 3) := by decide +kernel
theorem dX9_neighboursInDust_113 : decode cX9_neighboursInDust 113 = .ok (.iload_n 3, 1) := by decide +kernel
theorem dX9_neighboursInDust_114 : decode cX9_neighboursInDust 114 = .ok (.iaload, 1) := by decide +kernel
theorem dX9_neighboursInDust_115 : decode cX9_neighboursInDust 115 = .ok (.imul, 1) := by decide +kernel
theorem dX9_neighboursInDust_116 : decode cX9_neighboursInDust 116 = .ok (.isub, 1) := by decide +kernel
theorem dX9_neighboursInDust_117 : decode cX9_neighboursInDust 117 = .ok (.istore 10, 2) := by decide +kernel
theorem dX9_neighboursInDust_119 : decode cX9_neighboursInDust 119 = .ok (.iload 9, 2) := by decide +kernel
theorem dX9_neighboursInDust_121 : decode cX9_neighboursInDust 121 = .ok (.ifCond .le 37, 3) := by decide +kernel
theorem dX9_neighboursInDust_124 : decode cX9_neighboursInDust 124 = .ok (.iload 10, 2) := by decide +kernel
theorem dX9_neighboursInDust_126 : decode cX9_neighboursInDust 126 = .ok (.invokestatic 133, 3) := by decide +kernel
theorem dX9_neighboursInDust_129 : decode cX9_neighboursInDust 129 = .ok (.iload 9, 2) := by decide +kernel
theorem dX9_neighboursInDust_131 : decode cX9_neighboursInDust 131 = .ok (.if_icmp .gt 27, 3) := by decide +kernel
theorem dX9_neighboursInDust_134 : decode cX9_neighboursInDust 134 = .ok (.iload 7, 2) := by decide +kernel
theorem dX9_neighboursInDust_136 : decode cX9_neighboursInDust 136 = .ok (.iload 8, 2) := by decide +kernel
theorem dX9_neighboursInDust_138 : decode cX9_neighboursInDust 138 = .ok (.invokestatic 113, 3) := by decide +kernel
theorem dX9_neighboursInDust_141 : decode cX9_neighboursInDust 141 = .ok (.iload 4, 2) := by decide +kernel
theorem dX9_neighboursInDust_143 : decode cX9_neighboursInDust 143 = .ok (.iload 4, 2) := by decide +kernel
theorem dX9_neighboursInDust_145 : decode cX9_neighboursInDust 145 = .ok (.imul, 1) := by decide +kernel
theorem dX9_neighboursInDust_146 : decode cX9_neighboursInDust 146 = .ok (.if_icmp .gt 12, 3) := by decide +kernel
theorem dX9_neighboursInDust_149 : decode cX9_neighboursInDust 149 = .ok (.iload 5, 2) := by decide +kernel
theorem dX9_neighboursInDust_151 : decode cX9_neighboursInDust 151 = .ok (.iconst 1, 1) := by decide +kernel
theorem dX9_neighboursInDust_152 : decode cX9_neighboursInDust 152 = .ok (.iload 6, 2) := by decide +kernel
theorem dX9_neighboursInDust_154 : decode cX9_neighboursInDust 154 = .ok (.ishl, 1) := by decide +kernel
theorem dX9_neighboursInDust_155 : decode cX9_neighboursInDust 155 = .ok (.ior, 1) := by decide +kernel
theorem dX9_neighboursInDust_156 : decode cX9_neighboursInDust 156 = .ok (.istore 5, 2) := by decide +kernel
theorem dX9_neighboursInDust_158 : decode cX9_neighboursInDust 158 = .ok (.iinc 6 1, 3) := by decide +kernel
theorem dX9_neighboursInDust_161 : decode cX9_neighboursInDust 161 = .ok (.goto (-123), 3) := by decide +kernel
theorem dX9_neighboursInDust_164 : decode cX9_neighboursInDust 164 = .ok (.iload 5, 2) := by decide +kernel
theorem dX9_neighboursInDust_166 : decode cX9_neighboursInDust 166 = .ok (.ireturn, 1) := by decide +kernel
def f_X9_neighboursInDust_158 (N : Nat) (R : Nat → Nat → Nat) (k38 : SI → Nat → Nat → Int32 → Int32 → Int32 → Int32 → Option (Int32 × SI)) (σ : SI) (x0 : Nat) (x1 : Nat) (x3 : Int32) (x4 : Int32) (x5 : Int32) (x6 : Int32) : Option (Int32 × SI) := k38 σ x0 x1 x3 x4 x5 (x6 + 1)
def f_X9_neighboursInDust_38 (N : Nat) (R : Nat → Nat → Nat) : Nat → SI → Nat → Nat → Int32 → Int32 → Int32 → Int32 → Option (Int32 × SI)
  | 0, _, _, _, _, _, _, _ => none
  | n + 1, σ, x0, x1, x3, x4, x5, x6 => if (σ x0 9) ≤ x6 then (some (x5, σ)) else (ck x6 8 (ck x6 8 (ck x3 8 (ck x3 8 (ck x3 8 (ck x3 8 (if ((((σ (R (R x0 0) x6.toNatClampNeg) 2) - (σ x1 4)) * (wxL.getD x3.toNatClampNeg 0)) + (((σ (R (R x0 0) x6.toNatClampNeg) 3) - (σ x1 5)) * (wyL.getD x3.toNatClampNeg 0))) ≤ 0 then (f_X9_neighboursInDust_158 N R (fun σ x0 x1 x3 x4 x5 x6 => f_X9_neighboursInDust_38 N R n σ x0 x1 x3 x4 x5 x6) σ x0 x1 x3 x4 x5 x6) else (if ((((σ (R (R x0 0) x6.toNatClampNeg) 2) - (σ x1 4)) * (wxL.getD x3.toNatClampNeg 0)) + (((σ (R (R x0 0) x6.toNatClampNeg) 3) - (σ x1 5)) * (wyL.getD x3.toNatClampNeg 0))) < (if 0 ≤ ((((σ (R (R x0 0) x6.toNatClampNeg) 2) - (σ x1 4)) * (wyL.getD x3.toNatClampNeg 0)) - (((σ (R (R x0 0) x6.toNatClampNeg) 3) - (σ x1 5)) * (wxL.getD x3.toNatClampNeg 0))) then ((((σ (R (R x0 0) x6.toNatClampNeg) 2) - (σ x1 4)) * (wyL.getD x3.toNatClampNeg 0)) - (((σ (R (R x0 0) x6.toNatClampNeg) 3) - (σ x1 5)) * (wxL.getD x3.toNatClampNeg 0))) else 0 - ((((σ (R (R x0 0) x6.toNatClampNeg) 2) - (σ x1 4)) * (wyL.getD x3.toNatClampNeg 0)) - (((σ (R (R x0 0) x6.toNatClampNeg) 3) - (σ x1 5)) * (wxL.getD x3.toNatClampNeg 0)))) then (f_X9_neighboursInDust_158 N R (fun σ x0 x1 x3 x4 x5 x6 => f_X9_neighboursInDust_38 N R n σ x0 x1 x3 x4 x5 x6) σ x0 x1 x3 x4 x5 x6) else (bd (f_X11_squareSum N R σ ((σ (R (R x0 0) x6.toNatClampNeg) 2) - (σ x1 4)) ((σ (R (R x0 0) x6.toNatClampNeg) 3) - (σ x1 5))) (fun a20 σ20 => if (x4 * x4) < a20 then (f_X9_neighboursInDust_158 N R (fun σ x0 x1 x3 x4 x5 x6 => f_X9_neighboursInDust_38 N R n σ x0 x1 x3 x4 x5 x6) σ20 x0 x1 x3 x4 x5 x6) else (f_X9_neighboursInDust_158 N R (fun σ x0 x1 x3 x4 x5 x6 => f_X9_neighboursInDust_38 N R n σ x0 x1 x3 x4 x5 x6) σ20 x0 x1 x3 x4 (x5 ||| ((1 : Int32) <<< (x6 &&& 31))) x6)))))))))))
def f_X9_neighboursInDust (N : Nat) (R : Nat → Nat → Nat) (σ : SI) (x0 : Nat) (x1 : Nat) (x2 : Int32) : Option (Int32 × SI) := ck x2 24 (if (σ (R x0 7) x2.toNatClampNeg) < 0 then (some ((0 : Int32), σ)) else (if (σ (R x0 7) x2.toNatClampNeg) < (Int32.ofNat 8) then (ck x2 24 (f_X9_neighboursInDust_38 N R N σ x0 x1 (σ (R x0 7) x2.toNatClampNeg) ((50 : Int32) * (σ (R x0 8) x2.toNatClampNeg)) (0 : Int32) (0 : Int32))) else (some ((0 : Int32), σ))))
set_option maxHeartbeats 4000000 in
set_option maxRecDepth 100000 in
theorem w_X9_neighboursInDust_158 {l : Launch} {g : GL} {p : Program} {e : Jvm.Env} {s : State} {m : MethodId} {args : Array Value} {below : List Frame} {meth : Method} {c : Code} {R : Nat → Nat → Nat} {L : Nat → Nat → Int64} {r : (Int32 × SI)} {N : Nat} {k38 : SI → Nat → Nat → Int32 → Int32 → Int32 → Int32 → Option (Int32 × SI)} (C : Cx l g p s m meth c cX9_neighboursInDust 11 RX9) (hr : meth.sig.returnType = (some .int)) (hSh : ShR R) (hk38 : ∀ (σ : SI) (x0 : Nat) (x1 : Nat) (x3 : Int32) (x4 : Int32) (x5 : Int32) (x6 : Int32), k38 σ x0 x1 x3 x4 x5 x6 = some r → Ok 202 x0 9 → Ok 202 x1 0 → ∀ (H : Heap) (locs : List Loc) (ls : Array Slot), S2 g s σ R L H locs → lv_has ls 11 [(0, .ref (ga g x0)), (1, .ref (ga g x1)), (3, .int x3), (4, .int x4), (5, .int x5), (6, .int x6)] → W p l e (rmd 2 0 0) s m args below meth c H locs 0 0 (MQ below (Qg g 202 (PI R L r)) args s 0 0 (gA g)) (F0 m 38 ls [])) : ∀ (σ : SI) (x0 : Nat) (x1 : Nat) (x3 : Int32) (x4 : Int32) (x5 : Int32) (x6 : Int32), f_X9_neighboursInDust_158 N R k38 σ x0 x1 x3 x4 x5 x6 = some r → Ok 202 x0 9 → Ok 202 x1 0 → ∀ (H : Heap) (locs : List Loc) (ls : Array Slot), S2 g s σ R L H locs → lv_has ls 11 [(0, .ref (ga g x0)), (1, .ref (ga g x1)), (3, .int x3), (4, .int x4), (5, .int x5), (6, .int x6)] → W p l e (rmd 2 0 0) s m args below meth c H locs 0 0 (MQ below (Qg g 202 (PI R L r)) args s 0 0 (gA g)) (F0 m 158 ls []) := by
  have hx := C.1
  have hb := C.2.1
  intro σ x0 x1 x3 x4 x5 x6 h hx0 hx1 H locs ls S hl
  rw [f_X9_neighboursInDust_158] at h
  refine lv_iinc (v := x6 + 1) (lv' := [(6, .int (x6 + 1)), (0, .ref (ga g x0)), (1, .ref (ga g x1)), (3, .int x3), (4, .int x4), (5, .int x5)]) hx hb dX9_neighboursInDust_158 hl (k := 5) rfl rfl (by decide) rfl (fun ls hl => ?_)
  refine lv_goto (tgt := 38) hx hb dX9_neighboursInDust_161 (by decide) ?_
  exact hk38 σ x0 x1 x3 x4 x5 (x6 + 1) h hx0 hx1 H locs ls S (lv_sub hl [1, 2, 3, 4, 5, 0] rfl)
set_option maxHeartbeats 4000000 in
set_option maxRecDepth 100000 in
theorem w_X9_neighboursInDust_38 {l : Launch} {g : GL} {p : Program} {e : Jvm.Env} {s : State} {m : MethodId} {args : Array Value} {below : List Frame} {meth : Method} {c : Code} {R : Nat → Nat → Nat} {L : Nat → Nat → Int64} {r : (Int32 × SI)} {N : Nat} (C : Cx l g p s m meth c cX9_neighboursInDust 11 RX9) (hr : meth.sig.returnType = (some .int)) (hSh : ShR R) : ∀ (n : Nat) (σ : SI) (x0 : Nat) (x1 : Nat) (x3 : Int32) (x4 : Int32) (x5 : Int32) (x6 : Int32), f_X9_neighboursInDust_38 N R n σ x0 x1 x3 x4 x5 x6 = some r → Ok 202 x0 9 → Ok 202 x1 0 → ∀ (H : Heap) (locs : List Loc) (ls : Array Slot), S2 g s σ R L H locs → lv_has ls 11 [(0, .ref (ga g x0)), (1, .ref (ga g x1)), (3, .int x3), (4, .int x4), (5, .int x5), (6, .int x6)] → W p l e (rmd 2 0 0) s m args below meth c H locs 0 0 (MQ below (Qg g 202 (PI R L r)) args s 0 0 (gA g)) (F0 m 38 ls []) := by
  have hx := C.1
  have hb := C.2.1
  intro n
  induction n with
  | zero =>
    intro σ x0 x1 x3 x4 x5 x6 h
    cases (show (none : Option (Int32 × SI)) = some r from h)
  | succ n ih =>
    intro σ x0 x1 x3 x4 x5 x6 h hx0 hx1 H locs ls S hl
    rw [f_X9_neighboursInDust_38] at h
    refine lv_iload hx hb dX9_neighboursInDust_38 (lv_at hl 5 rfl) ?_
    refine lv_aload_n hx hb dX9_neighboursInDust_40 rfl (lv_at hl 0 rfl) ?_
    refine x_getI C S KX9 hx0 9 (by decide) rfl rfl fl_RX9_54 dX9_neighboursInDust_41 ?_
    refine lv_icmp_ge (tgt := 164) hx hb dX9_neighboursInDust_44 (by decide) (fun c7 => ?_) (fun c7 => ?_)
    · have h := it_p c7 h
      refine lv_iload hx hb dX9_neighboursInDust_164 (lv_at hl 4 rfl) ?_
      exact x_iret C S hr h dX9_neighboursInDust_166
    · have h := it_n c7 h
      refine lv_aload_n hx hb dX9_neighboursInDust_47 rfl (lv_at hl 0 rfl) ?_
      have hR8 : Ok 202 (R x0 0) 60008 := hSh x0 9 0 60008 hx0.1 rfl
      refine x_getR C S KX9 hx0 0 (by decide) rfl rfl fl_RX9_11 hR8 dX9_neighboursInDust_48 ?_
      refine lv_iload hx hb dX9_neighboursInDust_51 (lv_at hl 5 rfl) ?_
      obtain ⟨hi9, h⟩ := ck_el h
      have hR10 : Ok 202 (R (R x0 0) x6.toNatClampNeg) 4 := hSh (R x0 0) 60008 x6.toNatClampNeg 4 hR8.1 (if_pos (vp_lt hi9))
      refine x_aald (len := 8) C S (by decide) 5 (by decide) rfl hR8 hi9 hR10 dX9_neighboursInDust_53 ?_
      refine x_getI C S KX4 hR10 2 (by decide) rfl rfl fl_RX9_105 dX9_neighboursInDust_54 ?_
      refine lv_aload_n hx hb dX9_neighboursInDust_57 rfl (lv_at hl 1 rfl) ?_
      refine x_getI C S KX0 hx1 4 (by decide) rfl rfl fl_RX9_108 dX9_neighboursInDust_58 ?_
      refine lv_isub hx hb dX9_neighboursInDust_61 ?_
      refine lv_istore (lv' := [(7, .int ((σ (R (R x0 0) x6.toNatClampNeg) 2) - (σ x1 4))), (0, .ref (ga g x0)), (1, .ref (ga g x1)), (3, .int x3), (4, .int x4), (5, .int x5), (6, .int x6)]) hx hb dX9_neighboursInDust_62 hl (by decide) rfl (fun ls hl => ?_)
      refine lv_aload_n hx hb dX9_neighboursInDust_64 rfl (lv_at hl 1 rfl) ?_
      have hR11 : Ok 202 (R x0 0) 60008 := hSh x0 9 0 60008 hx0.1 rfl
      refine x_getR C S KX9 hx0 0 (by decide) rfl rfl fl_RX9_11 hR11 dX9_neighboursInDust_65 ?_
      refine lv_iload hx hb dX9_neighboursInDust_68 (lv_at hl 6 rfl) ?_
      obtain ⟨hi12, h⟩ := ck_el h
      have hR13 : Ok 202 (R (R x0 0) x6.toNatClampNeg) 4 := hSh (R x0 0) 60008 x6.toNatClampNeg 4 hR11.1 (if_pos (vp_lt hi12))
      refine x_aald (len := 8) C S (by decide) 5 (by decide) rfl hR11 hi12 hR13 dX9_neighboursInDust_70 ?_
      refine x_getI C S KX4 hR13 3 (by decide) rfl rfl fl_RX9_109 dX9_neighboursInDust_71 ?_
      refine lv_aload_n hx hb dX9_neighboursInDust_74 rfl (lv_at hl 2 rfl) ?_
      refine x_getI C S KX0 hx1 5 (by decide) rfl rfl fl_RX9_112 dX9_neighboursInDust_75 ?_
      refine lv_isub hx hb dX9_neighboursInDust_78 ?_
      refine lv_istore (lv' := [(8, .int ((σ (R (R x0 0) x6.toNatClampNeg) 3) - (σ x1 5))), (7, .int ((σ (R (R x0 0) x6.toNatClampNeg) 2) - (σ x1 4))), (0, .ref (ga g x0)), (1, .ref (ga g x1)), (3, .int x3), (4, .int x4), (5, .int x5), (6, .int x6)]) hx hb dX9_neighboursInDust_79 hl (by decide) rfl (fun ls hl => ?_)
      refine lv_iload hx hb dX9_neighboursInDust_81 (lv_at hl 1 rfl) ?_
      refine x_gets900 C S fl_RX9_127 dX9_neighboursInDust_83 ?_
      refine lv_iload_n hx hb dX9_neighboursInDust_86 rfl (lv_at hl 4 rfl) ?_
      obtain ⟨hi14, h⟩ := ck_el h
      refine x_wald900 C S hi14 dX9_neighboursInDust_87 ?_
      refine lv_imul hx hb dX9_neighboursInDust_88 ?_
      refine lv_iload hx hb dX9_neighboursInDust_89 (lv_at hl 0 rfl) ?_
      refine x_gets901 C S fl_RX9_130 dX9_neighboursInDust_91 ?_
      refine lv_iload_n hx hb dX9_neighboursInDust_94 rfl (lv_at hl 4 rfl) ?_
      obtain ⟨hi15, h⟩ := ck_el h
      refine x_wald901 C S hi15 dX9_neighboursInDust_95 ?_
      refine lv_imul hx hb dX9_neighboursInDust_96 ?_
      refine lv_iadd hx hb dX9_neighboursInDust_97 ?_
      refine lv_istore (lv' := [(9, .int ((((σ (R (R x0 0) x6.toNatClampNeg) 2) - (σ x1 4)) * (wxL.getD x3.toNatClampNeg 0)) + (((σ (R (R x0 0) x6.toNatClampNeg) 3) - (σ x1 5)) * (wyL.getD x3.toNatClampNeg 0)))), (8, .int ((σ (R (R x0 0) x6.toNatClampNeg) 3) - (σ x1 5))), (7, .int ((σ (R (R x0 0) x6.toNatClampNeg) 2) - (σ x1 4))), (0, .ref (ga g x0)), (1, .ref (ga g x1)), (3, .int x3), (4, .int x4), (5, .int x5), (6, .int x6)]) hx hb dX9_neighboursInDust_98 hl (by decide) rfl (fun ls hl => ?_)
      refine lv_iload hx hb dX9_neighboursInDust_100 (lv_at hl 2 rfl) ?_
      refine x_gets901 C S fl_RX9_130 dX9_neighboursInDust_102 ?_
      refine lv_iload_n hx hb dX9_neighboursInDust_105 rfl (lv_at hl 5 rfl) ?_
      obtain ⟨hi16, h⟩ := ck_el h
      refine x_wald901 C S hi16 dX9_neighboursInDust_106 ?_
      refine lv_imul hx hb dX9_neighboursInDust_107 ?_
      refine lv_iload hx hb dX9_neighboursInDust_108 (lv_at hl 1 rfl) ?_
      refine x_gets900 C S fl_RX9_127 dX9_neighboursInDust_110 ?_
      refine lv_iload_n hx hb dX9_neighboursInDust_113 rfl (lv_at hl 5 rfl) ?_
      obtain ⟨hi17, h⟩ := ck_el h
      refine x_wald900 C S hi17 dX9_neighboursInDust_114 ?_
      refine lv_imul hx hb dX9_neighboursInDust_115 ?_
      refine lv_isub hx hb dX9_neighboursInDust_116 ?_
      refine lv_istore (lv' := [(10, .int ((((σ (R (R x0 0) x6.toNatClampNeg) 2) - (σ x1 4)) * (wyL.getD x3.toNatClampNeg 0)) - (((σ (R (R x0 0) x6.toNatClampNeg) 3) - (σ x1 5)) * (wxL.getD x3.toNatClampNeg 0)))), (9, .int ((((σ (R (R x0 0) x6.toNatClampNeg) 2) - (σ x1 4)) * (wxL.getD x3.toNatClampNeg 0)) + (((σ (R (R x0 0) x6.toNatClampNeg) 3) - (σ x1 5)) * (wyL.getD x3.toNatClampNeg 0)))), (8, .int ((σ (R (R x0 0) x6.toNatClampNeg) 3) - (σ x1 5))), (7, .int ((σ (R (R x0 0) x6.toNatClampNeg) 2) - (σ x1 4))), (0, .ref (ga g x0)), (1, .ref (ga g x1)), (3, .int x3), (4, .int x4), (5, .int x5), (6, .int x6)]) hx hb dX9_neighboursInDust_117 hl (by decide) rfl (fun ls hl => ?_)
      refine lv_iload hx hb dX9_neighboursInDust_119 (lv_at hl 1 rfl) ?_
      refine lv_if_le (tgt := 158) hx hb dX9_neighboursInDust_121 (by decide) (fun c18 => ?_) (fun c18 => ?_)
      · have h := it_p c18 h
        exact w_X9_neighboursInDust_158 C hr hSh ih σ x0 x1 x3 x4 x5 x6 h hx0 hx1 H locs ls S (lv_sub hl [4, 5, 6, 7, 8, 9] rfl)
      · have h := it_n c18 h
        refine lv_iload hx hb dX9_neighboursInDust_124 (lv_at hl 0 rfl) ?_
        refine x_abs C hl.1 ⟨ml_RX9_133, st_math_abs, ni_math, cd_math_abs⟩ (Nat.le_of_ble_eq_true rfl) (Nat.le_of_ble_eq_true rfl) (Nat.le_of_ble_eq_true rfl) (Nat.le_of_ble_eq_true rfl) dX9_neighboursInDust_126 ?_
        refine lv_iload hx hb dX9_neighboursInDust_129 (lv_at hl 1 rfl) ?_
        refine lv_icmp_gt (tgt := 158) hx hb dX9_neighboursInDust_131 (by decide) (fun c19 => ?_) (fun c19 => ?_)
        · have h := it_p c19 h
          exact w_X9_neighboursInDust_158 C hr hSh ih σ x0 x1 x3 x4 x5 x6 h hx0 hx1 H locs ls S (lv_sub hl [4, 5, 6, 7, 8, 9] rfl)
        · have h := it_n c19 h
          refine lv_iload hx hb dX9_neighboursInDust_134 (lv_at hl 3 rfl) ?_
          refine lv_iload hx hb dX9_neighboursInDust_136 (lv_at hl 2 rfl) ?_
          obtain ⟨a20, σ20, hc20, h⟩ := bd_el h
          refine x_callNI C S (ok_X11_squareSum (L := L) hc20 hSh) ⟨cd_X11_squareSum, ni_RX11, mn_RX9_113, st_X11_squareSum⟩ ⟨by decide, by decide⟩ rfl (rm_ok (by decide) (by decide)) hl.1 rfl (Nat.le_of_ble_eq_true rfl) ⟨by decide, by decide⟩ dX9_neighboursInDust_138 (fun H locs S => ?_)
          refine lv_iload hx hb dX9_neighboursInDust_141 (lv_at hl 7 rfl) ?_
          refine lv_iload hx hb dX9_neighboursInDust_143 (lv_at hl 7 rfl) ?_
          refine lv_imul hx hb dX9_neighboursInDust_145 ?_
          refine lv_icmp_gt (tgt := 158) hx hb dX9_neighboursInDust_146 (by decide) (fun c21 => ?_) (fun c21 => ?_)
          · have h := it_p c21 h
            exact w_X9_neighboursInDust_158 C hr hSh ih σ20 x0 x1 x3 x4 x5 x6 h hx0 hx1 H locs ls S (lv_sub hl [4, 5, 6, 7, 8, 9] rfl)
          · have h := it_n c21 h
            refine lv_iload hx hb dX9_neighboursInDust_149 (lv_at hl 8 rfl) ?_
            refine lv_iconst (v := (1 : Int32)) hx hb dX9_neighboursInDust_151 (by decide) ?_
            refine lv_iload hx hb dX9_neighboursInDust_152 (lv_at hl 9 rfl) ?_
            refine lv_ishl hx hb dX9_neighboursInDust_154 ?_
            refine lv_ior hx hb dX9_neighboursInDust_155 ?_
            refine lv_istore (lv' := [(5, .int (x5 ||| ((1 : Int32) <<< (x6 &&& 31)))), (10, .int ((((σ (R (R x0 0) x6.toNatClampNeg) 2) - (σ x1 4)) * (wyL.getD x3.toNatClampNeg 0)) - (((σ (R (R x0 0) x6.toNatClampNeg) 3) - (σ x1 5)) * (wxL.getD x3.toNatClampNeg 0)))), (9, .int ((((σ (R (R x0 0) x6.toNatClampNeg) 2) - (σ x1 4)) * (wxL.getD x3.toNatClampNeg 0)) + (((σ (R (R x0 0) x6.toNatClampNeg) 3) - (σ x1 5)) * (wyL.getD x3.toNatClampNeg 0)))), (8, .int ((σ (R (R x0 0) x6.toNatClampNeg) 3) - (σ x1 5))), (7, .int ((σ (R (R x0 0) x6.toNatClampNeg) 2) - (σ x1 4))), (0, .ref (ga g x0)), (1, .ref (ga g x1)), (3, .int x3), (4, .int x4), (6, .int x6)]) hx hb dX9_neighboursInDust_156 hl (by decide) rfl (fun ls hl => ?_)
            exact w_X9_neighboursInDust_158 C hr hSh ih σ20 x0 x1 x3 x4 (x5 ||| ((1 : Int32) <<< (x6 &&& 31))) x6 h hx0 hx1 H locs ls S (lv_sub hl [5, 6, 7, 8, 0, 9] rfl)
set_option maxHeartbeats 4000000 in
set_option maxRecDepth 100000 in
theorem ok_X9_neighboursInDust {l : Launch} {g : GL} {R : Nat → Nat → Nat} {L : Nat → Nat → Int64} {N : Nat} {σ : SI} {x0 : Nat} {x1 : Nat} {x2 : Int32} {r : (Int32 × SI)} (h : f_X9_neighboursInDust N R σ x0 x1 x2 = some r) (hSh : ShR R) (hx0 : Ok 202 x0 9) (hx1 : Ok 202 x1 0) : Ct l g 2 yX9_neighboursInDust cX9_neighboursInDust 11 (some .int) 202 202 0 0 [.ref (ga g x0), .ref (ga g x1), .int x2] (mkS σ R L) (PI R L r) := by
  refine Met.ofW (cc := cX9_neighboursInDust) (maxL := 11) (ret := (some .int)) (by decide) rfl ?_
  intro p e s m args below meth c s₁ B hml hv
  obtain ⟨rfl, hE, hLo, hWd⟩ := hv
  have hr : meth.sig.returnType = (some .int) := B.returns
  have C : Cx l g p s m meth c cX9_neighboursInDust 11 RX9 := ⟨B.exec, B.bytes, hml, findClass_of_methodNamed B.named, hE, hLo, B.notSynchronized⟩
  have S : S2 g s σ R L s.heap [] := ⟨hWd, va_S.rf⟩
  have hx := C.1
  have hb := C.2.1
  have hl := lv_entry ([.ref (ga g x0), .ref (ga g x1), .int x2]) (n := 11) (Nat.le_of_ble_eq_true rfl)
  rw [lg_entry_eq]
  generalize (lg_sl ([.ref (ga g x0), .ref (ga g x1), .int x2]) ++ List.replicate (11 - (lg_sl ([.ref (ga g x0), .ref (ga g x1), .int x2])).length) Slot.unset).toArray = ls at hl ⊢
  have hl : lv_has ls 11 [(0, .ref (ga g x0)), (1, .ref (ga g x1)), (2, .int x2)] := hl
  generalize hH : s.heap = H at S ⊢
  generalize hlc : ([] : List Loc) = locs at S ⊢
  rw [f_X9_neighboursInDust] at h
  refine lv_aload_n hx hb dX9_neighboursInDust_0 rfl (lv_at hl 0 rfl) ?_
  have hR1 : Ok 202 (R x0 7) 10024 := hSh x0 9 7 10024 hx0.1 rfl
  refine x_getR C S KX9 hx0 7 (by decide) rfl rfl fl_RX9_42 hR1 dX9_neighboursInDust_1 ?_
  refine lv_iload_n hx hb dX9_neighboursInDust_4 rfl (lv_at hl 2 rfl) ?_
  obtain ⟨hi2, h⟩ := ck_el h
  refine x_iald (len := 24) C S (by decide) hR1 hi2 dX9_neighboursInDust_5 ?_
  refine lv_istore_n (lv' := [(3, .int (σ (R x0 7) x2.toNatClampNeg)), (0, .ref (ga g x0)), (1, .ref (ga g x1)), (2, .int x2)]) hx hb dX9_neighboursInDust_6 rfl hl (by decide) rfl (fun ls hl => ?_)
  refine lv_iload_n hx hb dX9_neighboursInDust_7 rfl (lv_at hl 0 rfl) ?_
  refine lv_if_lt (tgt := 19) hx hb dX9_neighboursInDust_8 (by decide) (fun c3 => ?_) (fun c3 => ?_)
  · have h := it_p c3 h
    refine lv_iconst (v := (0 : Int32)) hx hb dX9_neighboursInDust_19 (by decide) ?_
    exact x_iret C S hr h dX9_neighboursInDust_20
  · have h := it_n c3 h
    refine lv_iload_n hx hb dX9_neighboursInDust_11 rfl (lv_at hl 0 rfl) ?_
    refine x_gets900 C S fl_RX9_127 dX9_neighboursInDust_12 ?_
    refine x_wlen900 C S dX9_neighboursInDust_15 ?_
    refine lv_icmp_lt (tgt := 21) hx hb dX9_neighboursInDust_16 (by decide) (fun c4 => ?_) (fun c4 => ?_)
    · have h := it_p c4 h
      refine lv_bipush (v := (50 : Int32)) hx hb dX9_neighboursInDust_21 (by decide) ?_
      refine lv_aload_n hx hb dX9_neighboursInDust_23 rfl (lv_at hl 1 rfl) ?_
      have hR5 : Ok 202 (R x0 8) 10024 := hSh x0 9 8 10024 hx0.1 rfl
      refine x_getR C S KX9 hx0 8 (by decide) rfl rfl fl_RX9_45 hR5 dX9_neighboursInDust_24 ?_
      refine lv_iload_n hx hb dX9_neighboursInDust_27 rfl (lv_at hl 3 rfl) ?_
      obtain ⟨hi6, h⟩ := ck_el h
      refine x_iald (len := 24) C S (by decide) hR5 hi6 dX9_neighboursInDust_28 ?_
      refine lv_imul hx hb dX9_neighboursInDust_29 ?_
      refine lv_istore (lv' := [(4, .int ((50 : Int32) * (σ (R x0 8) x2.toNatClampNeg))), (3, .int (σ (R x0 7) x2.toNatClampNeg)), (0, .ref (ga g x0)), (1, .ref (ga g x1)), (2, .int x2)]) hx hb dX9_neighboursInDust_30 hl (by decide) rfl (fun ls hl => ?_)
      refine lv_iconst (v := (0 : Int32)) hx hb dX9_neighboursInDust_32 (by decide) ?_
      refine lv_istore (lv' := [(5, .int (0 : Int32)), (4, .int ((50 : Int32) * (σ (R x0 8) x2.toNatClampNeg))), (3, .int (σ (R x0 7) x2.toNatClampNeg)), (0, .ref (ga g x0)), (1, .ref (ga g x1)), (2, .int x2)]) hx hb dX9_neighboursInDust_33 hl (by decide) rfl (fun ls hl => ?_)
      refine lv_iconst (v := (0 : Int32)) hx hb dX9_neighboursInDust_35 (by decide) ?_
      refine lv_istore (lv' := [(6, .int (0 : Int32)), (5, .int (0 : Int32)), (4, .int ((50 : Int32) * (σ (R x0 8) x2.toNatClampNeg))), (3, .int (σ (R x0 7) x2.toNatClampNeg)), (0, .ref (ga g x0)), (1, .ref (ga g x1)), (2, .int x2)]) hx hb dX9_neighboursInDust_36 hl (by decide) rfl (fun ls hl => ?_)
      exact w_X9_neighboursInDust_38 C hr hSh N σ x0 x1 (σ (R x0 7) x2.toNatClampNeg) ((50 : Int32) * (σ (R x0 8) x2.toNatClampNeg)) (0 : Int32) (0 : Int32) h hx0 hx1 H locs ls S (lv_sub hl [4, 5, 3, 2, 1, 0] rfl)
    · have h := it_n c4 h
      refine lv_iconst (v := (0 : Int32)) hx hb dX9_neighboursInDust_19 (by decide) ?_
      exact x_iret C S hr h dX9_neighboursInDust_20
theorem dX9_weigh_0 : decode cX9_weigh 0 = .ok (.aload_n 1, 1) := by decide +kernel
theorem dX9_weigh_1 : decode cX9_weigh 1 = .ok (.invokevirtual 139, 3) := by decide +kernel
theorem dX9_weigh_4 : decode cX9_weigh 4 = .ok (.aload_n 1, 1) := by decide +kernel
theorem dX9_weigh_5 : decode cX9_weigh 5 = .ok (.iconst 0, 1) := by decide +kernel
theorem dX9_weigh_6 : decode cX9_weigh 6 = .ok (.putfield 142, 3) := by decide +kernel
theorem dX9_weigh_9 : decode cX9_weigh 9 = .ok (.iconst 0, 1) := by decide +kernel
theorem dX9_weigh_10 : decode cX9_weigh 10 = .ok (.istore_n 2, 1) := by decide +kernel
theorem dX9_weigh_11 : decode cX9_weigh 11 = .ok (.iload_n 2, 1) := by decide +kernel
theorem dX9_weigh_12 : decode cX9_weigh 12 = .ok (.aload_n 0, 1) := by decide +kernel
theorem dX9_weigh_13 : decode cX9_weigh 13 = .ok (.getfield 54, 3) := by decide +kernel
theorem dX9_weigh_16 : decode cX9_weigh 16 = .ok (.if_icmp .ge 42, 3) := by decide +kernel
theorem dX9_weigh_19 : decode cX9_weigh 19 = .ok (.aload_n 1, 1) := by decide +kernel
theorem dX9_weigh_20 : decode cX9_weigh 20 = .ok (.iload_n 2, 1) := by decide +kernel
theorem dX9_weigh_21 : decode cX9_weigh 21 = .ok (.aload_n 1, 1) := by decide +kernel
theorem dX9_weigh_22 : decode cX9_weigh 22 = .ok (.getfield 145, 3) := by decide +kernel
theorem dX9_weigh_25 : decode cX9_weigh 25 = .ok (.invokevirtual 148, 3) := by decide +kernel
theorem dX9_weigh_28 : decode cX9_weigh 28 = .ok (.aload_n 0, 1) := by decide +kernel
theorem dX9_weigh_29 : decode cX9_weigh 29 = .ok (.getfield 11, 3) := by decide +kernel
theorem dX9_weigh_32 : decode cX9_weigh 32 = .ok (.iload_n 2, 1) := by decide +kernel
theorem dX9_weigh_33 : decode cX9_weigh 33 = .ok (.aaload, 1) := by decide +kernel
theorem dX9_weigh_34 : decode cX9_weigh 34 = .ok (.getfield 151, 3) := by decide +kernel
theorem dX9_weigh_37 : decode cX9_weigh 37 = .ok (.if_icmp .le 15, 3) := by decide +kernel
theorem dX9_weigh_40 : decode cX9_weigh 40 = .ok (.aload_n 1, 1) := by decide +kernel
theorem dX9_weigh_41 : decode cX9_weigh 41 = .ok (.dup, 1) := by decide +kernel
theorem dX9_weigh_42 : decode cX9_weigh 42 = .ok (.getfield 142, 3) := by decide +kernel
theorem dX9_weigh_45 : decode cX9_weigh 45 = .ok (.iconst 1, 1) := by decide +kernel
theorem dX9_weigh_46 : decode cX9_weigh 46 = .ok (.iload_n 2, 1) := by decide +kernel
theorem dX9_weigh_47 : decode cX9_weigh 47 = .ok (.ishl, 1) := by decide +kernel
theorem dX9_weigh_48 : decode cX9_weigh 48 = .ok (.ior, 1) := by decide +kernel
theorem dX9_weigh_49 : decode cX9_weigh 49 = .ok (.putfield 142, 3) := by decide +kernel
theorem dX9_weigh_52 : decode cX9_weigh 52 = .ok (.iinc 2 1, 3) := by decide +kernel
theorem dX9_weigh_55 : decode cX9_weigh 55 = .ok (.goto (-44), 3) := by decide +kernel
theorem dX9_weigh_58 : decode cX9_weigh 58 = .ok (.return_, 1) := by decide +kernel
def f_X9_weigh_52 (N : Nat) (R : Nat → Nat → Nat) (k11 : SI → Nat → Nat → Int32 → Option (Unit × SI)) (σ : SI) (x0 : Nat) (x1 : Nat) (x2 : Int32) : Option (Unit × SI) := k11 σ x0 x1 (x2 + 1)
def f_X9_weigh_11 (N : Nat) (R : Nat → Nat → Nat) : Nat → SI → Nat → Nat → Int32 → Option (Unit × SI)
  | 0, _, _, _, _ => none
  | n + 1, σ, x0, x1, x2 => if (σ x0 9) ≤ x2 then (some ((), σ)) else (bd (f_X0_shakes N R σ x1 x2 (σ x1 8)) (fun a4 σ4 => ck x2 8 (if a4 ≤ (σ4 (R (R x0 0) x2.toNatClampNeg) 4) then (f_X9_weigh_52 N R (fun σ x0 x1 x2 => f_X9_weigh_11 N R n σ x0 x1 x2) σ4 x0 x1 x2) else (sq (up σ4 x1 10 ((σ4 x1 10) ||| ((1 : Int32) <<< (x2 &&& 31)))) (fun σ9 => f_X9_weigh_52 N R (fun σ x0 x1 x2 => f_X9_weigh_11 N R n σ x0 x1 x2) σ9 x0 x1 x2)))))
def f_X9_weigh (N : Nat) (R : Nat → Nat → Nat) (σ : SI) (x0 : Nat) (x1 : Nat) : Option (Unit × SI) := bd (f_X0_measureWindow N R σ x1) (fun _ σ1 => sq (up σ1 x1 10 (0 : Int32)) (fun σ2 => f_X9_weigh_11 N R N σ2 x0 x1 (0 : Int32)))
set_option maxHeartbeats 4000000 in
set_option maxRecDepth 100000 in
theorem w_X9_weigh_52 {l : Launch} {g : GL} {p : Program} {e : Jvm.Env} {s : State} {m : MethodId} {args : Array Value} {below : List Frame} {meth : Method} {c : Code} {R : Nat → Nat → Nat} {L : Nat → Nat → Int64} {r : (Unit × SI)} {N : Nat} {k11 : SI → Nat → Nat → Int32 → Option (Unit × SI)} (C : Cx l g p s m meth c cX9_weigh 3 RX9) (hr : meth.sig.returnType = none) (hSh : ShR R) (hk11 : ∀ (σ : SI) (x0 : Nat) (x1 : Nat) (x2 : Int32), k11 σ x0 x1 x2 = some r → Ok 202 x0 9 → Ok 202 x1 0 → ∀ (H : Heap) (locs : List Loc) (ls : Array Slot), S2 g s σ R L H locs → lv_has ls 3 [(0, .ref (ga g x0)), (1, .ref (ga g x1)), (2, .int x2)] → W p l e (rmd 3 0 0) s m args below meth c H locs 0 0 (MQ below (Qg g 202 (PV R L r)) args s 0 0 (gA g)) (F0 m 11 ls [])) : ∀ (σ : SI) (x0 : Nat) (x1 : Nat) (x2 : Int32), f_X9_weigh_52 N R k11 σ x0 x1 x2 = some r → Ok 202 x0 9 → Ok 202 x1 0 → ∀ (H : Heap) (locs : List Loc) (ls : Array Slot), S2 g s σ R L H locs → lv_has ls 3 [(0, .ref (ga g x0)), (1, .ref (ga g x1)), (2, .int x2)] → W p l e (rmd 3 0 0) s m args below meth c H locs 0 0 (MQ below (Qg g 202 (PV R L r)) args s 0 0 (gA g)) (F0 m 52 ls []) := by
  have hx := C.1
  have hb := C.2.1
  intro σ x0 x1 x2 h hx0 hx1 H locs ls S hl
  rw [f_X9_weigh_52] at h
  refine lv_iinc (v := x2 + 1) (lv' := [(2, .int (x2 + 1)), (0, .ref (ga g x0)), (1, .ref (ga g x1))]) hx hb dX9_weigh_52 hl (k := 2) rfl rfl (by decide) rfl (fun ls hl => ?_)
  refine lv_goto (tgt := 11) hx hb dX9_weigh_55 (by decide) ?_
  exact hk11 σ x0 x1 (x2 + 1) h hx0 hx1 H locs ls S (lv_sub hl [1, 2, 0] rfl)
set_option maxHeartbeats 4000000 in
set_option maxRecDepth 100000 in
theorem w_X9_weigh_11 {l : Launch} {g : GL} {p : Program} {e : Jvm.Env} {s : State} {m : MethodId} {args : Array Value} {below : List Frame} {meth : Method} {c : Code} {R : Nat → Nat → Nat} {L : Nat → Nat → Int64} {r : (Unit × SI)} {N : Nat} (C : Cx l g p s m meth c cX9_weigh 3 RX9) (hr : meth.sig.returnType = none) (hSh : ShR R) : ∀ (n : Nat) (σ : SI) (x0 : Nat) (x1 : Nat) (x2 : Int32), f_X9_weigh_11 N R n σ x0 x1 x2 = some r → Ok 202 x0 9 → Ok 202 x1 0 → ∀ (H : Heap) (locs : List Loc) (ls : Array Slot), S2 g s σ R L H locs → lv_has ls 3 [(0, .ref (ga g x0)), (1, .ref (ga g x1)), (2, .int x2)] → W p l e (rmd 3 0 0) s m args below meth c H locs 0 0 (MQ below (Qg g 202 (PV R L r)) args s 0 0 (gA g)) (F0 m 11 ls []) := by
  have hx := C.1
  have hb := C.2.1
  intro n
  induction n with
  | zero =>
    intro σ x0 x1 x2 h
    cases (show (none : Option (Unit × SI)) = some r from h)
  | succ n ih =>
    intro σ x0 x1 x2 h hx0 hx1 H locs ls S hl
    rw [f_X9_weigh_11] at h
    refine lv_iload_n hx hb dX9_weigh_11 rfl (lv_at hl 2 rfl) ?_
    refine lv_aload_n hx hb dX9_weigh_12 rfl (lv_at hl 0 rfl) ?_
    refine x_getI C S KX9 hx0 9 (by decide) rfl rfl fl_RX9_54 dX9_weigh_13 ?_
    refine lv_icmp_ge (tgt := 58) hx hb dX9_weigh_16 (by decide) (fun c3 => ?_) (fun c3 => ?_)
    · have h := it_p c3 h
      exact x_vret C S hr h dX9_weigh_58
    · have h := it_n c3 h
      refine lv_aload_n hx hb dX9_weigh_19 rfl (lv_at hl 1 rfl) ?_
      refine lv_iload_n hx hb dX9_weigh_20 rfl (lv_at hl 2 rfl) ?_
      refine lv_aload_n hx hb dX9_weigh_21 rfl (lv_at hl 1 rfl) ?_
      refine x_getI C S KX0 hx1 8 (by decide) rfl rfl fl_RX9_145 dX9_weigh_22 ?_
      obtain ⟨a4, σ4, hc4, h⟩ := bd_el h
      refine x_callVI C S KX0 hx1 (ok_X0_shakes (L := L) hc4 hSh hx1) ⟨cd_X0_shakes, ni_RX0, ml_RX9_148, in_X0_shakes, sl_X0_shakes⟩ ⟨by decide, by decide⟩ rfl (rm_ok (by decide) (by decide)) hl.1 rfl (Nat.le_of_ble_eq_true rfl) ⟨by decide, by decide⟩ dX9_weigh_25 (fun H locs S => ?_)
      refine lv_aload_n hx hb dX9_weigh_28 rfl (lv_at hl 0 rfl) ?_
      have hR5 : Ok 202 (R x0 0) 60008 := hSh x0 9 0 60008 hx0.1 rfl
      refine x_getR C S KX9 hx0 0 (by decide) rfl rfl fl_RX9_11 hR5 dX9_weigh_29 ?_
      refine lv_iload_n hx hb dX9_weigh_32 rfl (lv_at hl 2 rfl) ?_
      obtain ⟨hi6, h⟩ := ck_el h
      have hR7 : Ok 202 (R (R x0 0) x2.toNatClampNeg) 4 := hSh (R x0 0) 60008 x2.toNatClampNeg 4 hR5.1 (if_pos (vp_lt hi6))
      refine x_aald (len := 8) C S (by decide) 5 (by decide) rfl hR5 hi6 hR7 dX9_weigh_33 ?_
      refine x_getI C S KX4 hR7 4 (by decide) rfl rfl fl_RX9_151 dX9_weigh_34 ?_
      refine lv_icmp_le (tgt := 52) hx hb dX9_weigh_37 (by decide) (fun c8 => ?_) (fun c8 => ?_)
      · have h := it_p c8 h
        exact w_X9_weigh_52 C hr hSh ih σ4 x0 x1 x2 h hx0 hx1 H locs ls S (lv_sub hl [0, 1, 2] rfl)
      · have h := it_n c8 h
        refine lv_aload_n hx hb dX9_weigh_40 rfl (lv_at hl 1 rfl) ?_
        refine lv_dup hx hb dX9_weigh_41 rfl ?_
        refine x_getI C S KX0 hx1 10 (by decide) rfl rfl fl_RX9_142 dX9_weigh_42 ?_
        refine lv_iconst (v := (1 : Int32)) hx hb dX9_weigh_45 (by decide) ?_
        refine lv_iload_n hx hb dX9_weigh_46 rfl (lv_at hl 2 rfl) ?_
        refine lv_ishl hx hb dX9_weigh_47 ?_
        refine lv_ior hx hb dX9_weigh_48 ?_
        obtain ⟨σ9, hs9, h⟩ := sq_el h
        refine x_putI C S KX0 hx1 10 (by decide) rfl rfl rfl ⟨rfl, rfl⟩ fl_RX9_142 dX9_weigh_49 hs9 (fun H locs S => ?_)
        exact w_X9_weigh_52 C hr hSh ih σ9 x0 x1 x2 h hx0 hx1 H locs ls S (lv_sub hl [0, 1, 2] rfl)
set_option maxHeartbeats 4000000 in
set_option maxRecDepth 100000 in
theorem ok_X9_weigh {l : Launch} {g : GL} {R : Nat → Nat → Nat} {L : Nat → Nat → Int64} {N : Nat} {σ : SI} {x0 : Nat} {x1 : Nat} {r : (Unit × SI)} (h : f_X9_weigh N R σ x0 x1 = some r) (hSh : ShR R) (hx0 : Ok 202 x0 9) (hx1 : Ok 202 x1 0) : Ct l g 3 yX9_weigh cX9_weigh 3 none 202 202 0 0 [.ref (ga g x0), .ref (ga g x1)] (mkS σ R L) (PV R L r) := by
  refine Met.ofW (cc := cX9_weigh) (maxL := 3) (ret := none) (by decide) rfl ?_
  intro p e s m args below meth c s₁ B hml hv
  obtain ⟨rfl, hE, hLo, hWd⟩ := hv
  have hr : meth.sig.returnType = none := B.returns
  have C : Cx l g p s m meth c cX9_weigh 3 RX9 := ⟨B.exec, B.bytes, hml, findClass_of_methodNamed B.named, hE, hLo, B.notSynchronized⟩
  have S : S2 g s σ R L s.heap [] := ⟨hWd, va_S.rf⟩
  have hx := C.1
  have hb := C.2.1
  have hl := lv_entry ([.ref (ga g x0), .ref (ga g x1)]) (n := 3) (Nat.le_of_ble_eq_true rfl)
  rw [lg_entry_eq]
  generalize (lg_sl ([.ref (ga g x0), .ref (ga g x1)]) ++ List.replicate (3 - (lg_sl ([.ref (ga g x0), .ref (ga g x1)])).length) Slot.unset).toArray = ls at hl ⊢
  have hl : lv_has ls 3 [(0, .ref (ga g x0)), (1, .ref (ga g x1))] := hl
  generalize hH : s.heap = H at S ⊢
  generalize hlc : ([] : List Loc) = locs at S ⊢
  rw [f_X9_weigh] at h
  refine lv_aload_n hx hb dX9_weigh_0 rfl (lv_at hl 1 rfl) ?_
  obtain ⟨a1, σ1, hc1, h⟩ := bd_el h
  refine x_callVV C S KX0 hx1 (ok_X0_measureWindow (L := L) hc1 hSh hx1) ⟨cd_X0_measureWindow, ni_RX0, ml_RX9_139, in_X0_measureWindow, sl_X0_measureWindow⟩ ⟨by decide, by decide⟩ rfl (rm_ok (by decide) (by decide)) hl.1 rfl (Nat.le_of_ble_eq_true rfl) ⟨by decide, by decide⟩ dX9_weigh_1 (fun H locs S => ?_)
  refine lv_aload_n hx hb dX9_weigh_4 rfl (lv_at hl 1 rfl) ?_
  refine lv_iconst (v := (0 : Int32)) hx hb dX9_weigh_5 (by decide) ?_
  obtain ⟨σ2, hs2, h⟩ := sq_el h
  refine x_putI C S KX0 hx1 10 (by decide) rfl rfl rfl ⟨rfl, rfl⟩ fl_RX9_142 dX9_weigh_6 hs2 (fun H locs S => ?_)
  refine lv_iconst (v := (0 : Int32)) hx hb dX9_weigh_9 (by decide) ?_
  refine lv_istore_n (lv' := [(2, .int (0 : Int32)), (0, .ref (ga g x0)), (1, .ref (ga g x1))]) hx hb dX9_weigh_10 rfl hl (by decide) rfl (fun ls hl => ?_)
  exact w_X9_weigh_11 C hr hSh N σ2 x0 x1 (0 : Int32) h hx0 hx1 H locs ls S (lv_sub hl [1, 2, 0] rfl)
theorem dX9_quietFor_0 : decode cX9_quietFor 0 = .ok (.iconst 0, 1) := by decide +kernel
theorem dX9_quietFor_1 : decode cX9_quietFor 1 = .ok (.istore_n 3, 1) := by decide +kernel
theorem dX9_quietFor_2 : decode cX9_quietFor 2 = .ok (.iload_n 3, 1) := by decide +kernel
theorem dX9_quietFor_3 : decode cX9_quietFor 3 = .ok (.aload_n 0, 1) := by decide +kernel
theorem dX9_quietFor_4 : decode cX9_quietFor 4 = .ok (.getfield 54, 3) := by decide +kernel
theorem dX9_quietFor_7 : decode cX9_quietFor 7 = .ok (.if_icmp .ge 35, 3) := by decide +kernel
theorem dX9_quietFor_10 : decode cX9_quietFor 10 = .ok (.aload_n 1, 1) := by decide +kernel
theorem dX9_quietFor_11 : decode cX9_quietFor 11 = .ok (.getfield 102, 3) := by decide +kernel
theorem dX9_quietFor_14 : decode cX9_quietFor 14 = .ok (.iload_n 3, 1) := by decide +kernel
theorem dX9_quietFor_15 : decode cX9_quietFor 15 = .ok (.ishr, 1) := by decide +kernel
theorem dX9_quietFor_16 : decode cX9_quietFor 16 = .ok (.iconst 1, 1) := by decide +kernel
theorem dX9_quietFor_17 : decode cX9_quietFor 17 = .ok (.iand, 1) := by decide +kernel
theorem dX9_quietFor_18 : decode cX9_quietFor 18 = .ok (.ifCond .eq 18, 3) := by decide +kernel
theorem dX9_quietFor_21 : decode cX9_quietFor 21 = .ok (.aload_n 0, 1) := by decide +kernel
theorem dX9_quietFor_22 : decode cX9_quietFor 22 = .ok (.getfield 11, 3) := by decide +kernel
theorem dX9_quietFor_25 : decode cX9_quietFor 25 = .ok (.iload_n 3, 1) := by decide +kernel
theorem dX9_quietFor_26 : decode cX9_quietFor 26 = .ok (.aaload, 1) := by decide +kernel
theorem dX9_quietFor_27 : decode cX9_quietFor 27 = .ok (.iload_n 2, 1) := by decide +kernel
theorem dX9_quietFor_28 : decode cX9_quietFor 28 = .ok (.invokevirtual 165, 3) := by decide +kernel
theorem dX9_quietFor_31 : decode cX9_quietFor 31 = .ok (.ifCond .eq 5, 3) := by decide +kernel
theorem dX9_quietFor_34 : decode cX9_quietFor 34 = .ok (.iconst 1, 1) := by decide +kernel
theorem dX9_quietFor_35 : decode cX9_quietFor 35 = .ok (.ireturn, 1) := by decide +kernel
theorem dX9_quietFor_36 : decode cX9_quietFor 36 = .ok (.iinc 3 1, 3) := by decide +kernel
theorem dX9_quietFor_39 : decode cX9_quietFor 39 = .ok (.goto (-37), 3) := by decide +kernel
theorem dX9_quietFor_42 : decode cX9_quietFor 42 = .ok (.iconst 0, 1) := by decide +kernel
theorem dX9_quietFor_43 : decode cX9_quietFor 43 = .ok (.ireturn, 1) := by decide +kernel
def f_X9_quietFor_36 (N : Nat) (R : Nat → Nat → Nat) (k2 : SI → Nat → Nat → Int32 → Int32 → Option (Int32 × SI)) (σ : SI) (x0 : Nat) (x1 : Nat) (x2 : Int32) (x3 : Int32) : Option (Int32 × SI) := k2 σ x0 x1 x2 (x3 + 1)
def f_X9_quietFor_2 (N : Nat) (R : Nat → Nat → Nat) : Nat → SI → Nat → Nat → Int32 → Int32 → Option (Int32 × SI)
  | 0, _, _, _, _, _ => none
  | n + 1, σ, x0, x1, x2, x3 => if (σ x0 9) ≤ x3 then (some ((0 : Int32), σ)) else (if (((σ x1 12) >>> (x3 &&& 31)) &&& (1 : Int32)) = 0 then (f_X9_quietFor_36 N R (fun σ x0 x1 x2 x3 => f_X9_quietFor_2 N R n σ x0 x1 x2 x3) σ x0 x1 x2 x3) else (ck x3 8 (bd (f_X4_quietAt N R σ (R (R x0 0) x3.toNatClampNeg) x2) (fun a6 σ6 => if a6 = 0 then (f_X9_quietFor_36 N R (fun σ x0 x1 x2 x3 => f_X9_quietFor_2 N R n σ x0 x1 x2 x3) σ6 x0 x1 x2 x3) else (some ((1 : Int32), σ6))))))
def f_X9_quietFor (N : Nat) (R : Nat → Nat → Nat) (σ : SI) (x0 : Nat) (x1 : Nat) (x2 : Int32) : Option (Int32 × SI) := f_X9_quietFor_2 N R N σ x0 x1 x2 (0 : Int32)
set_option maxHeartbeats 4000000 in
set_option maxRecDepth 100000 in
theorem w_X9_quietFor_36 {l : Launch} {g : GL} {p : Program} {e : Jvm.Env} {s : State} {m : MethodId} {args : Array Value} {below : List Frame} {meth : Method} {c : Code} {R : Nat → Nat → Nat} {L : Nat → Nat → Int64} {r : (Int32 × SI)} {N : Nat} {k2 : SI → Nat → Nat → Int32 → Int32 → Option (Int32 × SI)} (C : Cx l g p s m meth c cX9_quietFor 4 RX9) (hr : meth.sig.returnType = (some .boolean)) (hSh : ShR R) (hk2 : ∀ (σ : SI) (x0 : Nat) (x1 : Nat) (x2 : Int32) (x3 : Int32), k2 σ x0 x1 x2 x3 = some r → Ok 202 x0 9 → Ok 202 x1 0 → ∀ (H : Heap) (locs : List Loc) (ls : Array Slot), S2 g s σ R L H locs → lv_has ls 4 [(0, .ref (ga g x0)), (1, .ref (ga g x1)), (2, .int x2), (3, .int x3)] → W p l e (rmd 2 0 0) s m args below meth c H locs 0 0 (MQ below (Qg g 202 (PI R L r)) args s 0 0 (gA g)) (F0 m 2 ls [])) : ∀ (σ : SI) (x0 : Nat) (x1 : Nat) (x2 : Int32) (x3 : Int32), f_X9_quietFor_36 N R k2 σ x0 x1 x2 x3 = some r → Ok 202 x0 9 → Ok 202 x1 0 → ∀ (H : Heap) (locs : List Loc) (ls : Array Slot), S2 g s σ R L H locs → lv_has ls 4 [(0, .ref (ga g x0)), (1, .ref (ga g x1)), (2, .int x2), (3, .int x3)] → W p l e (rmd 2 0 0) s m args below meth c H locs 0 0 (MQ below (Qg g 202 (PI R L r)) args s 0 0 (gA g)) (F0 m 36 ls []) := by
  have hx := C.1
  have hb := C.2.1
  intro σ x0 x1 x2 x3 h hx0 hx1 H locs ls S hl
  rw [f_X9_quietFor_36] at h
  refine lv_iinc (v := x3 + 1) (lv' := [(3, .int (x3 + 1)), (0, .ref (ga g x0)), (1, .ref (ga g x1)), (2, .int x2)]) hx hb dX9_quietFor_36 hl (k := 3) rfl rfl (by decide) rfl (fun ls hl => ?_)
  refine lv_goto (tgt := 2) hx hb dX9_quietFor_39 (by decide) ?_
  exact hk2 σ x0 x1 x2 (x3 + 1) h hx0 hx1 H locs ls S (lv_sub hl [1, 2, 3, 0] rfl)
set_option maxHeartbeats 4000000 in
set_option maxRecDepth 100000 in
theorem w_X9_quietFor_2 {l : Launch} {g : GL} {p : Program} {e : Jvm.Env} {s : State} {m : MethodId} {args : Array Value} {below : List Frame} {meth : Method} {c : Code} {R : Nat → Nat → Nat} {L : Nat → Nat → Int64} {r : (Int32 × SI)} {N : Nat} (C : Cx l g p s m meth c cX9_quietFor 4 RX9) (hr : meth.sig.returnType = (some .boolean)) (hSh : ShR R) : ∀ (n : Nat) (σ : SI) (x0 : Nat) (x1 : Nat) (x2 : Int32) (x3 : Int32), f_X9_quietFor_2 N R n σ x0 x1 x2 x3 = some r → Ok 202 x0 9 → Ok 202 x1 0 → ∀ (H : Heap) (locs : List Loc) (ls : Array Slot), S2 g s σ R L H locs → lv_has ls 4 [(0, .ref (ga g x0)), (1, .ref (ga g x1)), (2, .int x2), (3, .int x3)] → W p l e (rmd 2 0 0) s m args below meth c H locs 0 0 (MQ below (Qg g 202 (PI R L r)) args s 0 0 (gA g)) (F0 m 2 ls []) := by
  have hx := C.1
  have hb := C.2.1
  intro n
  induction n with
  | zero =>
    intro σ x0 x1 x2 x3 h
    cases (show (none : Option (Int32 × SI)) = some r from h)
  | succ n ih =>
    intro σ x0 x1 x2 x3 h hx0 hx1 H locs ls S hl
    rw [f_X9_quietFor_2] at h
    refine lv_iload_n hx hb dX9_quietFor_2 rfl (lv_at hl 3 rfl) ?_
    refine lv_aload_n hx hb dX9_quietFor_3 rfl (lv_at hl 0 rfl) ?_
    refine x_getI C S KX9 hx0 9 (by decide) rfl rfl fl_RX9_54 dX9_quietFor_4 ?_
    refine lv_icmp_ge (tgt := 42) hx hb dX9_quietFor_7 (by decide) (fun c1 => ?_) (fun c1 => ?_)
    · have h := it_p c1 h
      refine lv_iconst (v := (0 : Int32)) hx hb dX9_quietFor_42 (by decide) ?_
      exact x_zret C S hr (by decide) h dX9_quietFor_43
    · have h := it_n c1 h
      refine lv_aload_n hx hb dX9_quietFor_10 rfl (lv_at hl 1 rfl) ?_
      refine x_getI C S KX0 hx1 12 (by decide) rfl rfl fl_RX9_102 dX9_quietFor_11 ?_
      refine lv_iload_n hx hb dX9_quietFor_14 rfl (lv_at hl 3 rfl) ?_
      refine lv_ishr hx hb dX9_quietFor_15 ?_
      refine lv_iconst (v := (1 : Int32)) hx hb dX9_quietFor_16 (by decide) ?_
      refine lv_iand hx hb dX9_quietFor_17 ?_
      refine lv_if_eq (tgt := 36) hx hb dX9_quietFor_18 (by decide) (fun c2 => ?_) (fun c2 => ?_)
      · have h := it_p c2 h
        exact w_X9_quietFor_36 C hr hSh ih σ x0 x1 x2 x3 h hx0 hx1 H locs ls S (lv_sub hl [0, 1, 2, 3] rfl)
      · have h := it_n c2 h
        refine lv_aload_n hx hb dX9_quietFor_21 rfl (lv_at hl 0 rfl) ?_
        have hR3 : Ok 202 (R x0 0) 60008 := hSh x0 9 0 60008 hx0.1 rfl
        refine x_getR C S KX9 hx0 0 (by decide) rfl rfl fl_RX9_11 hR3 dX9_quietFor_22 ?_
        refine lv_iload_n hx hb dX9_quietFor_25 rfl (lv_at hl 3 rfl) ?_
        obtain ⟨hi4, h⟩ := ck_el h
        have hR5 : Ok 202 (R (R x0 0) x3.toNatClampNeg) 4 := hSh (R x0 0) 60008 x3.toNatClampNeg 4 hR3.1 (if_pos (vp_lt hi4))
        refine x_aald (len := 8) C S (by decide) 5 (by decide) rfl hR3 hi4 hR5 dX9_quietFor_26 ?_
        refine lv_iload_n hx hb dX9_quietFor_27 rfl (lv_at hl 2 rfl) ?_
        obtain ⟨a6, σ6, hc6, h⟩ := bd_el h
        refine x_callVI C S KX4 hR5 (ok_X4_quietAt (L := L) hc6 hSh hR5) ⟨cd_X4_quietAt, ni_RX4, ml_RX9_165, in_X4_quietAt, sl_X4_quietAt⟩ ⟨by decide, by decide⟩ rfl (rm_ok (by decide) (by decide)) hl.1 rfl (Nat.le_of_ble_eq_true rfl) ⟨by decide, by decide⟩ dX9_quietFor_28 (fun H locs S => ?_)
        refine lv_if_eq (tgt := 36) hx hb dX9_quietFor_31 (by decide) (fun c7 => ?_) (fun c7 => ?_)
        · have h := it_p c7 h
          exact w_X9_quietFor_36 C hr hSh ih σ6 x0 x1 x2 x3 h hx0 hx1 H locs ls S (lv_sub hl [0, 1, 2, 3] rfl)
        · have h := it_n c7 h
          refine lv_iconst (v := (1 : Int32)) hx hb dX9_quietFor_34 (by decide) ?_
          exact x_zret C S hr (by decide) h dX9_quietFor_35
set_option maxHeartbeats 4000000 in
set_option maxRecDepth 100000 in
theorem ok_X9_quietFor {l : Launch} {g : GL} {R : Nat → Nat → Nat} {L : Nat → Nat → Int64} {N : Nat} {σ : SI} {x0 : Nat} {x1 : Nat} {x2 : Int32} {r : (Int32 × SI)} (h : f_X9_quietFor N R σ x0 x1 x2 = some r) (hSh : ShR R) (hx0 : Ok 202 x0 9) (hx1 : Ok 202 x1 0) : Ct l g 2 yX9_quietFor cX9_quietFor 4 (some .boolean) 202 202 0 0 [.ref (ga g x0), .ref (ga g x1), .int x2] (mkS σ R L) (PI R L r) := by
  refine Met.ofW (cc := cX9_quietFor) (maxL := 4) (ret := (some .boolean)) (by decide) rfl ?_
  intro p e s m args below meth c s₁ B hml hv
  obtain ⟨rfl, hE, hLo, hWd⟩ := hv
  have hr : meth.sig.returnType = (some .boolean) := B.returns
  have C : Cx l g p s m meth c cX9_quietFor 4 RX9 := ⟨B.exec, B.bytes, hml, findClass_of_methodNamed B.named, hE, hLo, B.notSynchronized⟩
  have S : S2 g s σ R L s.heap [] := ⟨hWd, va_S.rf⟩
  have hx := C.1
  have hb := C.2.1
  have hl := lv_entry ([.ref (ga g x0), .ref (ga g x1), .int x2]) (n := 4) (Nat.le_of_ble_eq_true rfl)
  rw [lg_entry_eq]
  generalize (lg_sl ([.ref (ga g x0), .ref (ga g x1), .int x2]) ++ List.replicate (4 - (lg_sl ([.ref (ga g x0), .ref (ga g x1), .int x2])).length) Slot.unset).toArray = ls at hl ⊢
  have hl : lv_has ls 4 [(0, .ref (ga g x0)), (1, .ref (ga g x1)), (2, .int x2)] := hl
  generalize hH : s.heap = H at S ⊢
  generalize hlc : ([] : List Loc) = locs at S ⊢
  rw [f_X9_quietFor] at h
  refine lv_iconst (v := (0 : Int32)) hx hb dX9_quietFor_0 (by decide) ?_
  refine lv_istore_n (lv' := [(3, .int (0 : Int32)), (0, .ref (ga g x0)), (1, .ref (ga g x1)), (2, .int x2)]) hx hb dX9_quietFor_1 rfl hl (by decide) rfl (fun ls hl => ?_)
  exact w_X9_quietFor_2 C hr hSh N σ x0 x1 x2 (0 : Int32) h hx0 hx1 H locs ls S (lv_sub hl [1, 2, 3, 0] rfl)
theorem dX9_crowded_0 : decode cX9_crowded 0 = .ok (.iconst 0, 1) := by decide +kernel
theorem dX9_crowded_1 : decode cX9_crowded 1 = .ok (.istore 4, 2) := by decide +kernel
theorem dX9_crowded_3 : decode cX9_crowded 3 = .ok (.iload 4, 2) := by decide +kernel
theorem dX9_crowded_5 : decode cX9_crowded 5 = .ok (.aload_n 0, 1) := by decide +kernel
theorem dX9_crowded_6 : decode cX9_crowded 6 = .ok (.getfield 61, 3) := by decide +kernel
theorem dX9_crowded_9 : decode cX9_crowded 9 = .ok (.if_icmp .ge 41, 3) := by decide +kernel
theorem dX9_crowded_12 : decode cX9_crowded 12 = .ok (.iload 4, 2) := by decide +kernel
theorem dX9_crowded_14 : decode cX9_crowded 14 = .ok (.iload_n 1, 1) := by decide +kernel
theorem dX9_crowded_15 : decode cX9_crowded 15 = .ok (.if_icmp .eq 29, 3) := by decide +kernel
theorem dX9_crowded_18 : decode cX9_crowded 18 = .ok (.aload_n 3, 1) := by decide +kernel
theorem dX9_crowded_19 : decode cX9_crowded 19 = .ok (.iload 4, 2) := by decide +kernel
theorem dX9_crowded_21 : decode cX9_crowded 21 = .ok (.iaload, 1) := by decide +kernel
theorem dX9_crowded_22 : decode cX9_crowded 22 = .ok (.iconst (-1), 1) := by decide +kernel
theorem dX9_crowded_23 : decode cX9_crowded 23 = .ok (.if_icmp .eq 21, 3) := by decide +kernel
theorem dX9_crowded_26 : decode cX9_crowded 26 = .ok (.aload_n 3, 1) := by decide +kernel
theorem dX9_crowded_27 : decode cX9_crowded 27 = .ok (.iload 4, 2) := by decide +kernel
theorem dX9_crowded_29 : decode cX9_crowded 29 = .ok (.iaload, 1) := by decide +kernel
theorem dX9_crowded_30 : decode cX9_crowded 30 = .ok (.iload_n 2, 1) := by decide +kernel
theorem dX9_crowded_31 : decode cX9_crowded 31 = .ok (.isub, 1) := by decide +kernel
theorem dX9_crowded_32 : decode cX9_crowded 32 = .ok (.invokestatic 133, 3) := by decide +kernel
theorem dX9_crowded_35 : decode cX9_crowded 35 = .ok (.aload_n 0, 1) := by decide +kernel
theorem dX9_crowded_36 : decode cX9_crowded 36 = .ok (.getfield 79, 3) := by decide +kernel
theorem dX9_crowded_39 : decode cX9_crowded 39 = .ok (.if_icmp .ge 5, 3) := by decide +kernel
theorem dX9_crowded_42 : decode cX9_crowded 42 = .ok (.iconst 1, 1) := by decide +kernel
theorem dX9_crowded_43 : decode cX9_crowded 43 = .ok (.ireturn, 1) := by decide +kernel
theorem dX9_crowded_44 : decode cX9_crowded 44 = .ok (.iinc 4 1, 3) := by decide +kernel
theorem dX9_crowded_47 : decode cX9_crowded 47 = .ok (.goto (-44), 3) := by decide +kernel
theorem dX9_crowded_50 : decode cX9_crowded 50 = .ok (.iconst 0, 1) := by decide +kernel
theorem dX9_crowded_51 : decode cX9_crowded 51 = .ok (.ireturn, 1) := by decide +kernel
def f_X9_crowded_44 (N : Nat) (R : Nat → Nat → Nat) (k3 : SI → Nat → Int32 → Int32 → Nat → Int32 → Option (Int32 × SI)) (σ : SI) (x0 : Nat) (x1 : Int32) (x2 : Int32) (x3 : Nat) (x4 : Int32) : Option (Int32 × SI) := k3 σ x0 x1 x2 x3 (x4 + 1)
def f_X9_crowded_3 (N : Nat) (R : Nat → Nat → Nat) : Nat → SI → Nat → Int32 → Int32 → Nat → Int32 → Option (Int32 × SI)
  | 0, _, _, _, _, _, _ => none
  | n + 1, σ, x0, x1, x2, x3, x4 => if (σ x0 11) ≤ x4 then (some ((0 : Int32), σ)) else (if x4 = x1 then (f_X9_crowded_44 N R (fun σ x0 x1 x2 x3 x4 => f_X9_crowded_3 N R n σ x0 x1 x2 x3 x4) σ x0 x1 x2 x3 x4) else (ck x4 6 (if (σ x3 x4.toNatClampNeg) = (-1 : Int32) then (f_X9_crowded_44 N R (fun σ x0 x1 x2 x3 x4 => f_X9_crowded_3 N R n σ x0 x1 x2 x3 x4) σ x0 x1 x2 x3 x4) else (ck x4 6 (if (σ x0 17) ≤ (if 0 ≤ ((σ x3 x4.toNatClampNeg) - x2) then ((σ x3 x4.toNatClampNeg) - x2) else 0 - ((σ x3 x4.toNatClampNeg) - x2)) then (f_X9_crowded_44 N R (fun σ x0 x1 x2 x3 x4 => f_X9_crowded_3 N R n σ x0 x1 x2 x3 x4) σ x0 x1 x2 x3 x4) else (some ((1 : Int32), σ)))))))
def f_X9_crowded (N : Nat) (R : Nat → Nat → Nat) (σ : SI) (x0 : Nat) (x1 : Int32) (x2 : Int32) (x3 : Nat) : Option (Int32 × SI) := f_X9_crowded_3 N R N σ x0 x1 x2 x3 (0 : Int32)
set_option maxHeartbeats 4000000 in
set_option maxRecDepth 100000 in
theorem w_X9_crowded_44 {l : Launch} {g : GL} {p : Program} {e : Jvm.Env} {s : State} {m : MethodId} {args : Array Value} {below : List Frame} {meth : Method} {c : Code} {R : Nat → Nat → Nat} {L : Nat → Nat → Int64} {r : (Int32 × SI)} {N : Nat} {k3 : SI → Nat → Int32 → Int32 → Nat → Int32 → Option (Int32 × SI)} (C : Cx l g p s m meth c cX9_crowded 5 RX9) (hr : meth.sig.returnType = (some .boolean)) (hSh : ShR R) (hk3 : ∀ (σ : SI) (x0 : Nat) (x1 : Int32) (x2 : Int32) (x3 : Nat) (x4 : Int32), k3 σ x0 x1 x2 x3 x4 = some r → Ok 202 x0 9 → Ok 202 x3 10006 → ∀ (H : Heap) (locs : List Loc) (ls : Array Slot), S2 g s σ R L H locs → lv_has ls 5 [(0, .ref (ga g x0)), (1, .int x1), (2, .int x2), (3, .ref (ga g x3)), (4, .int x4)] → W p l e (rmd 1 0 0) s m args below meth c H locs 0 0 (MQ below (Qg g 202 (PI R L r)) args s 0 0 (gA g)) (F0 m 3 ls [])) : ∀ (σ : SI) (x0 : Nat) (x1 : Int32) (x2 : Int32) (x3 : Nat) (x4 : Int32), f_X9_crowded_44 N R k3 σ x0 x1 x2 x3 x4 = some r → Ok 202 x0 9 → Ok 202 x3 10006 → ∀ (H : Heap) (locs : List Loc) (ls : Array Slot), S2 g s σ R L H locs → lv_has ls 5 [(0, .ref (ga g x0)), (1, .int x1), (2, .int x2), (3, .ref (ga g x3)), (4, .int x4)] → W p l e (rmd 1 0 0) s m args below meth c H locs 0 0 (MQ below (Qg g 202 (PI R L r)) args s 0 0 (gA g)) (F0 m 44 ls []) := by
  have hx := C.1
  have hb := C.2.1
  intro σ x0 x1 x2 x3 x4 h hx0 hx3 H locs ls S hl
  rw [f_X9_crowded_44] at h
  refine lv_iinc (v := x4 + 1) (lv' := [(4, .int (x4 + 1)), (0, .ref (ga g x0)), (1, .int x1), (2, .int x2), (3, .ref (ga g x3))]) hx hb dX9_crowded_44 hl (k := 4) rfl rfl (by decide) rfl (fun ls hl => ?_)
  refine lv_goto (tgt := 3) hx hb dX9_crowded_47 (by decide) ?_
  exact hk3 σ x0 x1 x2 x3 (x4 + 1) h hx0 hx3 H locs ls S (lv_sub hl [1, 2, 3, 4, 0] rfl)
set_option maxHeartbeats 4000000 in
set_option maxRecDepth 100000 in
theorem w_X9_crowded_3 {l : Launch} {g : GL} {p : Program} {e : Jvm.Env} {s : State} {m : MethodId} {args : Array Value} {below : List Frame} {meth : Method} {c : Code} {R : Nat → Nat → Nat} {L : Nat → Nat → Int64} {r : (Int32 × SI)} {N : Nat} (C : Cx l g p s m meth c cX9_crowded 5 RX9) (hr : meth.sig.returnType = (some .boolean)) (hSh : ShR R) : ∀ (n : Nat) (σ : SI) (x0 : Nat) (x1 : Int32) (x2 : Int32) (x3 : Nat) (x4 : Int32), f_X9_crowded_3 N R n σ x0 x1 x2 x3 x4 = some r → Ok 202 x0 9 → Ok 202 x3 10006 → ∀ (H : Heap) (locs : List Loc) (ls : Array Slot), S2 g s σ R L H locs → lv_has ls 5 [(0, .ref (ga g x0)), (1, .int x1), (2, .int x2), (3, .ref (ga g x3)), (4, .int x4)] → W p l e (rmd 1 0 0) s m args below meth c H locs 0 0 (MQ below (Qg g 202 (PI R L r)) args s 0 0 (gA g)) (F0 m 3 ls []) := by
  have hx := C.1
  have hb := C.2.1
  intro n
  induction n with
  | zero =>
    intro σ x0 x1 x2 x3 x4 h
    cases (show (none : Option (Int32 × SI)) = some r from h)
  | succ n ih =>
    intro σ x0 x1 x2 x3 x4 h hx0 hx3 H locs ls S hl
    rw [f_X9_crowded_3] at h
    refine lv_iload hx hb dX9_crowded_3 (lv_at hl 4 rfl) ?_
    refine lv_aload_n hx hb dX9_crowded_5 rfl (lv_at hl 0 rfl) ?_
    refine x_getI C S KX9 hx0 11 (by decide) rfl rfl fl_RX9_61 dX9_crowded_6 ?_
    refine lv_icmp_ge (tgt := 50) hx hb dX9_crowded_9 (by decide) (fun c1 => ?_) (fun c1 => ?_)
    · have h := it_p c1 h
      refine lv_iconst (v := (0 : Int32)) hx hb dX9_crowded_50 (by decide) ?_
      exact x_zret C S hr (by decide) h dX9_crowded_51
    · have h := it_n c1 h
      refine lv_iload hx hb dX9_crowded_12 (lv_at hl 4 rfl) ?_
      refine lv_iload_n hx hb dX9_crowded_14 rfl (lv_at hl 1 rfl) ?_
      refine lv_icmp_eq (tgt := 44) hx hb dX9_crowded_15 (by decide) (fun c2 => ?_) (fun c2 => ?_)
      · have h := it_p c2 h
        exact w_X9_crowded_44 C hr hSh ih σ x0 x1 x2 x3 x4 h hx0 hx3 H locs ls S (lv_sub hl [0, 1, 2, 3, 4] rfl)
      · have h := it_n c2 h
        refine lv_aload_n hx hb dX9_crowded_18 rfl (lv_at hl 3 rfl) ?_
        refine lv_iload hx hb dX9_crowded_19 (lv_at hl 4 rfl) ?_
        obtain ⟨hi3, h⟩ := ck_el h
        refine x_iald (len := 6) C S (by decide) hx3 hi3 dX9_crowded_21 ?_
        refine lv_iconst (v := (-1 : Int32)) hx hb dX9_crowded_22 (by decide) ?_
        refine lv_icmp_eq (tgt := 44) hx hb dX9_crowded_23 (by decide) (fun c4 => ?_) (fun c4 => ?_)
        · have h := it_p c4 h
          exact w_X9_crowded_44 C hr hSh ih σ x0 x1 x2 x3 x4 h hx0 hx3 H locs ls S (lv_sub hl [0, 1, 2, 3, 4] rfl)
        · have h := it_n c4 h
          refine lv_aload_n hx hb dX9_crowded_26 rfl (lv_at hl 3 rfl) ?_
          refine lv_iload hx hb dX9_crowded_27 (lv_at hl 4 rfl) ?_
          obtain ⟨hi5, h⟩ := ck_el h
          refine x_iald (len := 6) C S (by decide) hx3 hi5 dX9_crowded_29 ?_
          refine lv_iload_n hx hb dX9_crowded_30 rfl (lv_at hl 2 rfl) ?_
          refine lv_isub hx hb dX9_crowded_31 ?_
          refine x_abs C hl.1 ⟨ml_RX9_133, st_math_abs, ni_math, cd_math_abs⟩ (Nat.le_of_ble_eq_true rfl) (Nat.le_of_ble_eq_true rfl) (Nat.le_of_ble_eq_true rfl) (Nat.le_of_ble_eq_true rfl) dX9_crowded_32 ?_
          refine lv_aload_n hx hb dX9_crowded_35 rfl (lv_at hl 0 rfl) ?_
          refine x_getI C S KX9 hx0 17 (by decide) rfl rfl fl_RX9_79 dX9_crowded_36 ?_
          refine lv_icmp_ge (tgt := 44) hx hb dX9_crowded_39 (by decide) (fun c6 => ?_) (fun c6 => ?_)
          · have h := it_p c6 h
            exact w_X9_crowded_44 C hr hSh ih σ x0 x1 x2 x3 x4 h hx0 hx3 H locs ls S (lv_sub hl [0, 1, 2, 3, 4] rfl)
          · have h := it_n c6 h
            refine lv_iconst (v := (1 : Int32)) hx hb dX9_crowded_42 (by decide) ?_
            exact x_zret C S hr (by decide) h dX9_crowded_43
set_option maxHeartbeats 4000000 in
set_option maxRecDepth 100000 in
theorem ok_X9_crowded {l : Launch} {g : GL} {R : Nat → Nat → Nat} {L : Nat → Nat → Int64} {N : Nat} {σ : SI} {x0 : Nat} {x1 : Int32} {x2 : Int32} {x3 : Nat} {r : (Int32 × SI)} (h : f_X9_crowded N R σ x0 x1 x2 x3 = some r) (hSh : ShR R) (hx0 : Ok 202 x0 9) (hx3 : Ok 202 x3 10006) : Ct l g 1 yX9_crowded cX9_crowded 5 (some .boolean) 202 202 0 0 [.ref (ga g x0), .int x1, .int x2, .ref (ga g x3)] (mkS σ R L) (PI R L r) := by
  refine Met.ofW (cc := cX9_crowded) (maxL := 5) (ret := (some .boolean)) (by decide) rfl ?_
  intro p e s m args below meth c s₁ B hml hv
  obtain ⟨rfl, hE, hLo, hWd⟩ := hv
  have hr : meth.sig.returnType = (some .boolean) := B.returns
  have C : Cx l g p s m meth c cX9_crowded 5 RX9 := ⟨B.exec, B.bytes, hml, findClass_of_methodNamed B.named, hE, hLo, B.notSynchronized⟩
  have S : S2 g s σ R L s.heap [] := ⟨hWd, va_S.rf⟩
  have hx := C.1
  have hb := C.2.1
  have hl := lv_entry ([.ref (ga g x0), .int x1, .int x2, .ref (ga g x3)]) (n := 5) (Nat.le_of_ble_eq_true rfl)
  rw [lg_entry_eq]
  generalize (lg_sl ([.ref (ga g x0), .int x1, .int x2, .ref (ga g x3)]) ++ List.replicate (5 - (lg_sl ([.ref (ga g x0), .int x1, .int x2, .ref (ga g x3)])).length) Slot.unset).toArray = ls at hl ⊢
  have hl : lv_has ls 5 [(0, .ref (ga g x0)), (1, .int x1), (2, .int x2), (3, .ref (ga g x3))] := hl
  generalize hH : s.heap = H at S ⊢
  generalize hlc : ([] : List Loc) = locs at S ⊢
  rw [f_X9_crowded] at h
  refine lv_iconst (v := (0 : Int32)) hx hb dX9_crowded_0 (by decide) ?_
  refine lv_istore (lv' := [(4, .int (0 : Int32)), (0, .ref (ga g x0)), (1, .int x1), (2, .int x2), (3, .ref (ga g x3))]) hx hb dX9_crowded_1 hl (by decide) rfl (fun ls hl => ?_)
  exact w_X9_crowded_3 C hr hSh N σ x0 x1 x2 x3 (0 : Int32) h hx0 hx3 H locs ls S (lv_sub hl [1, 2, 3, 4, 0] rfl)
theorem dX10_hasRoom_0 : decode cX10_hasRoom 0 = .ok (.aload_n 0, 1) := by decide +kernel
theorem dX10_hasRoom_1 : decode cX10_hasRoom 1 = .ok (.getfield 19, 3) := by decide +kernel
theorem dX10_hasRoom_4 : decode cX10_hasRoom 4 = .ok (.iload_n 1, 1) := by decide +kernel
theorem dX10_hasRoom_5 : decode cX10_hasRoom 5 = .ok (.iadd, 1) := by decide +kernel
theorem dX10_hasRoom_6 : decode cX10_hasRoom 6 = .ok (.sipush 800, 3) := by decide +kernel
theorem dX10_hasRoom_9 : decode cX10_hasRoom 9 = .ok (.if_icmp .gt 7, 3) := by decide +kernel
theorem dX10_hasRoom_12 : decode cX10_hasRoom 12 = .ok (.iconst 1, 1) := by decide +kernel
theorem dX10_hasRoom_13 : decode cX10_hasRoom 13 = .ok (.goto 4, 3) := by decide +kernel
theorem dX10_hasRoom_16 : decode cX10_hasRoom 16 = .ok (.iconst 0, 1) := by decide +kernel
theorem dX10_hasRoom_17 : decode cX10_hasRoom 17 = .ok (.ireturn, 1) := by decide +kernel
def f_X10_hasRoom (N : Nat) (R : Nat → Nat → Nat) (σ : SI) (x0 : Nat) (x1 : Int32) : Option (Int32 × SI) := if (800 : Int32) < ((σ x0 1) + x1) then (some ((0 : Int32), σ)) else (some ((1 : Int32), σ))
set_option maxHeartbeats 4000000 in
set_option maxRecDepth 100000 in
theorem ok_X10_hasRoom {l : Launch} {g : GL} {R : Nat → Nat → Nat} {L : Nat → Nat → Int64} {N : Nat} {σ : SI} {x0 : Nat} {x1 : Int32} {r : (Int32 × SI)} (h : f_X10_hasRoom N R σ x0 x1 = some r) (hSh : ShR R) (hx0 : Ok 202 x0 10) : Ct l g 1 yX10_hasRoom cX10_hasRoom 2 (some .boolean) 202 202 0 0 [.ref (ga g x0), .int x1] (mkS σ R L) (PI R L r) := by
  refine Met.ofW (cc := cX10_hasRoom) (maxL := 2) (ret := (some .boolean)) (by decide) rfl ?_
  intro p e s m args below meth c s₁ B hml hv
  obtain ⟨rfl, hE, hLo, hWd⟩ := hv
  have hr : meth.sig.returnType = (some .boolean) := B.returns
  have C : Cx l g p s m meth c cX10_hasRoom 2 RX10 := ⟨B.exec, B.bytes, hml, findClass_of_methodNamed B.named, hE, hLo, B.notSynchronized⟩
  have S : S2 g s σ R L s.heap [] := ⟨hWd, va_S.rf⟩
  have hx := C.1
  have hb := C.2.1
  have hl := lv_entry ([.ref (ga g x0), .int x1]) (n := 2) (Nat.le_of_ble_eq_true rfl)
  rw [lg_entry_eq]
  generalize (lg_sl ([.ref (ga g x0), .int x1]) ++ List.replicate (2 - (lg_sl ([.ref (ga g x0), .int x1])).length) Slot.unset).toArray = ls at hl ⊢
  have hl : lv_has ls 2 [(0, .ref (ga g x0)), (1, .int x1)] := hl
  generalize hH : s.heap = H at S ⊢
  generalize hlc : ([] : List Loc) = locs at S ⊢
  rw [f_X10_hasRoom] at h
  refine lv_aload_n hx hb dX10_hasRoom_0 rfl (lv_at hl 0 rfl) ?_
  refine x_getI C S KX10 hx0 1 (by decide) rfl rfl fl_RX10_19 dX10_hasRoom_1 ?_
  refine lv_iload_n hx hb dX10_hasRoom_4 rfl (lv_at hl 1 rfl) ?_
  refine lv_iadd hx hb dX10_hasRoom_5 ?_
  refine lv_sipush (v := (800 : Int32)) hx hb dX10_hasRoom_6 (by decide) ?_
  refine lv_icmp_gt (tgt := 16) hx hb dX10_hasRoom_9 (by decide) (fun c1 => ?_) (fun c1 => ?_)
  · have h := it_p c1 h
    refine lv_iconst (v := (0 : Int32)) hx hb dX10_hasRoom_16 (by decide) ?_
    exact x_zret C S hr (by decide) h dX10_hasRoom_17
  · have h := it_n c1 h
    refine lv_iconst (v := (1 : Int32)) hx hb dX10_hasRoom_12 (by decide) ?_
    refine lv_goto (tgt := 17) hx hb dX10_hasRoom_13 (by decide) ?_
    exact x_zret C S hr (by decide) h dX10_hasRoom_17
theorem dX10_addWord_0 : decode cX10_addWord 0 = .ok (.bipush 24, 2) := by decide +kernel
theorem dX10_addWord_2 : decode cX10_addWord 2 = .ok (.istore_n 2, 1) := by decide +kernel
theorem dX10_addWord_3 : decode cX10_addWord 3 = .ok (.iload_n 2, 1) := by decide +kernel
theorem dX10_addWord_4 : decode cX10_addWord 4 = .ok (.ifCond .lt 42, 3) := by decide +kernel
theorem dX10_addWord_7 : decode cX10_addWord 7 = .ok (.aload_n 0, 1) := by decide +kernel
theorem dX10_addWord_8 : decode cX10_addWord 8 = .ok (.getfield 19, 3) := by decide +kernel
theorem dX10_addWord_11 : decode cX10_addWord 11 = .ok (.sipush 800, 3) := by decide +kernel
theorem dX10_addWord_14 : decode cX10_addWord 14 = .ok (.if_icmp .ge 32, 3) := by decide +kernel
theorem dX10_addWord_17 : decode cX10_addWord 17 = .ok (.aload_n 0, 1) := by decide +kernel
theorem dX10_addWord_18 : decode cX10_addWord 18 = .ok (.getfield 9, 3) := by decide +kernel
theorem dX10_addWord_21 : decode cX10_addWord 21 = .ok (.aload_n 0, 1) := by decide +kernel
theorem dX10_addWord_22 : decode cX10_addWord 22 = .ok (.getfield 19, 3) := by decide +kernel
theorem dX10_addWord_25 : decode cX10_addWord 25 = .ok (.iload_n 1, 1) := by decide +kernel
theorem dX10_addWord_26 : decode cX10_addWord 26 = .ok (.iload_n 2, 1) := by decide +kernel
theorem dX10_addWord_27 : decode cX10_addWord 27 = .ok (.ishr, 1) := by decide +kernel
theorem dX10_addWord_28 : decode cX10_addWord 28 = .ok (.i2b, 1) := by decide +kernel
theorem dX10_addWord_29 : decode cX10_addWord 29 = .ok (.bastore, 1) := by decide +kernel
theorem dX10_addWord_30 : decode cX10_addWord 30 = .ok (.aload_n 0, 1) := by decide +kernel
theorem dX10_addWord_31 : decode cX10_addWord 31 = .ok (.dup, 1) := by decide +kernel
theorem dX10_addWord_32 : decode cX10_addWord 32 = .ok (.getfield 19, 3) := by decide +kernel
theorem dX10_addWord_35 : decode cX10_addWord 35 = .ok (.iconst 1, 1) := by decide +kernel
theorem dX10_addWord_36 : decode cX10_addWord 36 = .ok (.iadd, 1) := by decide +kernel
theorem dX10_addWord_37 : decode cX10_addWord 37 = .ok (.putfield 19, 3) := by decide +kernel
theorem dX10_addWord_40 : decode cX10_addWord 40 = .ok (.iinc 2 (-8), 3) := by decide +kernel
theorem dX10_addWord_43 : decode cX10_addWord 43 = .ok (.goto (-40), 3) := by decide +kernel
theorem dX10_addWord_46 : decode cX10_addWord 46 = .ok (.return_, 1) := by decide +kernel
def f_X10_addWord_3 (N : Nat) (R : Nat → Nat → Nat) : Nat → SI → Nat → Int32 → Int32 → Option (Unit × SI)
  | 0, _, _, _, _ => none
  | n + 1, σ, x0, x1, x2 => if x2 < 0 then (some ((), σ)) else (if (800 : Int32) ≤ (σ x0 1) then (some ((), σ)) else (ck (σ x0 1) 800 (sq (up σ (R x0 0) (σ x0 1).toNatClampNeg (vp_nar .byte ((x1 >>> (x2 &&& 31)).toInt8.toInt32))) (fun σ5 => sq (up σ5 x0 1 ((σ5 x0 1) + (1 : Int32))) (fun σ6 => f_X10_addWord_3 N R n σ6 x0 x1 (x2 + (-8)))))))
def f_X10_addWord (N : Nat) (R : Nat → Nat → Nat) (σ : SI) (x0 : Nat) (x1 : Int32) : Option (Unit × SI) := f_X10_addWord_3 N R N σ x0 x1 (24 : Int32)
set_option maxHeartbeats 4000000 in
set_option maxRecDepth 100000 in
theorem w_X10_addWord_3 {l : Launch} {g : GL} {p : Program} {e : Jvm.Env} {s : State} {m : MethodId} {args : Array Value} {below : List Frame} {meth : Method} {c : Code} {R : Nat → Nat → Nat} {L : Nat → Nat → Int64} {r : (Unit × SI)} {N : Nat} (C : Cx l g p s m meth c cX10_addWord 3 RX10) (hr : meth.sig.returnType = none) (hSh : ShR R) : ∀ (n : Nat) (σ : SI) (x0 : Nat) (x1 : Int32) (x2 : Int32), f_X10_addWord_3 N R n σ x0 x1 x2 = some r → Ok 202 x0 10 → ∀ (H : Heap) (locs : List Loc) (ls : Array Slot), S2 g s σ R L H locs → lv_has ls 3 [(0, .ref (ga g x0)), (1, .int x1), (2, .int x2)] → W p l e (rmd 1 0 0) s m args below meth c H locs 0 0 (MQ below (Qg g 202 (PV R L r)) args s 0 0 (gA g)) (F0 m 3 ls []) := by
  have hx := C.1
  have hb := C.2.1
  intro n
  induction n with
  | zero =>
    intro σ x0 x1 x2 h
    cases (show (none : Option (Unit × SI)) = some r from h)
  | succ n ih =>
    intro σ x0 x1 x2 h hx0 H locs ls S hl
    rw [f_X10_addWord_3] at h
    refine lv_iload_n hx hb dX10_addWord_3 rfl (lv_at hl 2 rfl) ?_
    refine lv_if_lt (tgt := 46) hx hb dX10_addWord_4 (by decide) (fun c1 => ?_) (fun c1 => ?_)
    · have h := it_p c1 h
      exact x_vret C S hr h dX10_addWord_46
    · have h := it_n c1 h
      refine lv_aload_n hx hb dX10_addWord_7 rfl (lv_at hl 0 rfl) ?_
      refine x_getI C S KX10 hx0 1 (by decide) rfl rfl fl_RX10_19 dX10_addWord_8 ?_
      refine lv_sipush (v := (800 : Int32)) hx hb dX10_addWord_11 (by decide) ?_
      refine lv_icmp_ge (tgt := 46) hx hb dX10_addWord_14 (by decide) (fun c2 => ?_) (fun c2 => ?_)
      · have h := it_p c2 h
        exact x_vret C S hr h dX10_addWord_46
      · have h := it_n c2 h
        refine lv_aload_n hx hb dX10_addWord_17 rfl (lv_at hl 0 rfl) ?_
        have hR3 : Ok 202 (R x0 0) 20800 := hSh x0 10 0 20800 hx0.1 rfl
        refine x_getR C S KX10 hx0 0 (by decide) rfl rfl fl_RX10_9 hR3 dX10_addWord_18 ?_
        refine lv_aload_n hx hb dX10_addWord_21 rfl (lv_at hl 0 rfl) ?_
        refine x_getI C S KX10 hx0 1 (by decide) rfl rfl fl_RX10_19 dX10_addWord_22 ?_
        refine lv_iload_n hx hb dX10_addWord_25 rfl (lv_at hl 1 rfl) ?_
        refine lv_iload_n hx hb dX10_addWord_26 rfl (lv_at hl 2 rfl) ?_
        refine lv_ishr hx hb dX10_addWord_27 ?_
        refine lv_i2b hx hb dX10_addWord_28 rfl ?_
        obtain ⟨hi4, h⟩ := ck_el h
        obtain ⟨σ5, hs5, h⟩ := sq_el h
        refine x_bast (len := 800) C S (by decide) hR3 hi4 dX10_addWord_29 hs5 (fun H locs S => ?_)
        refine lv_aload_n hx hb dX10_addWord_30 rfl (lv_at hl 0 rfl) ?_
        refine lv_dup hx hb dX10_addWord_31 rfl ?_
        refine x_getI C S KX10 hx0 1 (by decide) rfl rfl fl_RX10_19 dX10_addWord_32 ?_
        refine lv_iconst (v := (1 : Int32)) hx hb dX10_addWord_35 (by decide) ?_
        refine lv_iadd hx hb dX10_addWord_36 ?_
        obtain ⟨σ6, hs6, h⟩ := sq_el h
        refine x_putI C S KX10 hx0 1 (by decide) rfl rfl rfl ⟨rfl, rfl⟩ fl_RX10_19 dX10_addWord_37 hs6 (fun H locs S => ?_)
        refine lv_iinc (v := x2 + (-8)) (lv' := [(2, .int (x2 + (-8))), (0, .ref (ga g x0)), (1, .int x1)]) hx hb dX10_addWord_40 hl (k := 2) rfl rfl (by decide) rfl (fun ls hl => ?_)
        refine lv_goto (tgt := 3) hx hb dX10_addWord_43 (by decide) ?_
        exact ih σ6 x0 x1 (x2 + (-8)) h hx0 H locs ls S (lv_sub hl [1, 2, 0] rfl)
set_option maxHeartbeats 4000000 in
set_option maxRecDepth 100000 in
theorem ok_X10_addWord {l : Launch} {g : GL} {R : Nat → Nat → Nat} {L : Nat → Nat → Int64} {N : Nat} {σ : SI} {x0 : Nat} {x1 : Int32} {r : (Unit × SI)} (h : f_X10_addWord N R σ x0 x1 = some r) (hSh : ShR R) (hx0 : Ok 202 x0 10) : Ct l g 1 yX10_addWord cX10_addWord 3 none 202 202 0 0 [.ref (ga g x0), .int x1] (mkS σ R L) (PV R L r) := by
  refine Met.ofW (cc := cX10_addWord) (maxL := 3) (ret := none) (by decide) rfl ?_
  intro p e s m args below meth c s₁ B hml hv
  obtain ⟨rfl, hE, hLo, hWd⟩ := hv
  have hr : meth.sig.returnType = none := B.returns
  have C : Cx l g p s m meth c cX10_addWord 3 RX10 := ⟨B.exec, B.bytes, hml, findClass_of_methodNamed B.named, hE, hLo, B.notSynchronized⟩
  have S : S2 g s σ R L s.heap [] := ⟨hWd, va_S.rf⟩
  have hx := C.1
  have hb := C.2.1
  have hl := lv_entry ([.ref (ga g x0), .int x1]) (n := 3) (Nat.le_of_ble_eq_true rfl)
  rw [lg_entry_eq]
  generalize (lg_sl ([.ref (ga g x0), .int x1]) ++ List.replicate (3 - (lg_sl ([.ref (ga g x0), .int x1])).length) Slot.unset).toArray = ls at hl ⊢
  have hl : lv_has ls 3 [(0, .ref (ga g x0)), (1, .int x1)] := hl
  generalize hH : s.heap = H at S ⊢
  generalize hlc : ([] : List Loc) = locs at S ⊢
  rw [f_X10_addWord] at h
  refine lv_bipush (v := (24 : Int32)) hx hb dX10_addWord_0 (by decide) ?_
  refine lv_istore_n (lv' := [(2, .int (24 : Int32)), (0, .ref (ga g x0)), (1, .int x1)]) hx hb dX10_addWord_2 rfl hl (by decide) rfl (fun ls hl => ?_)
  exact w_X10_addWord_3 C hr hSh N σ x0 x1 (24 : Int32) h hx0 H locs ls S (lv_sub hl [1, 2, 0] rfl)
theorem dX10_begin_0 : decode cX10_begin 0 = .ok (.aload_n 0, 1) := by decide +kernel
theorem dX10_begin_1 : decode cX10_begin 1 = .ok (.iconst 0, 1) := by decide +kernel
theorem dX10_begin_2 : decode cX10_begin 2 = .ok (.putfield 22, 3) := by decide +kernel
theorem dX10_begin_5 : decode cX10_begin 5 = .ok (.aload_n 0, 1) := by decide +kernel
theorem dX10_begin_6 : decode cX10_begin 6 = .ok (.iconst (-1), 1) := by decide +kernel
theorem dX10_begin_7 : decode cX10_begin 7 = .ok (.putfield 15, 3) := by decide +kernel
theorem dX10_begin_10 : decode cX10_begin 10 = .ok (.aload_n 0, 1) := by decide +kernel
theorem dX10_begin_11 : decode cX10_begin 11 = .ok (.iconst 0, 1) := by decide +kernel
theorem dX10_begin_12 : decode cX10_begin 12 = .ok (.putfield 25, 3) := by decide +kernel
theorem dX10_begin_15 : decode cX10_begin 15 = .ok (.return_, 1) := by decide +kernel
def f_X10_begin (N : Nat) (R : Nat → Nat → Nat) (σ : SI) (x0 : Nat) : Option (Unit × SI) := sq (up σ x0 2 (0 : Int32)) (fun σ1 => sq (up σ1 x0 3 (-1 : Int32)) (fun σ2 => sq (up σ2 x0 4 (0 : Int32)) (fun σ3 => some ((), σ3))))
set_option maxHeartbeats 4000000 in
set_option maxRecDepth 100000 in
theorem ok_X10_begin {l : Launch} {g : GL} {R : Nat → Nat → Nat} {L : Nat → Nat → Int64} {N : Nat} {σ : SI} {x0 : Nat} {r : (Unit × SI)} (h : f_X10_begin N R σ x0 = some r) (hSh : ShR R) (hx0 : Ok 202 x0 10) : Ct l g 1 yX10_begin cX10_begin 1 none 202 202 0 0 [.ref (ga g x0)] (mkS σ R L) (PV R L r) := by
  refine Met.ofW (cc := cX10_begin) (maxL := 1) (ret := none) (by decide) rfl ?_
  intro p e s m args below meth c s₁ B hml hv
  obtain ⟨rfl, hE, hLo, hWd⟩ := hv
  have hr : meth.sig.returnType = none := B.returns
  have C : Cx l g p s m meth c cX10_begin 1 RX10 := ⟨B.exec, B.bytes, hml, findClass_of_methodNamed B.named, hE, hLo, B.notSynchronized⟩
  have S : S2 g s σ R L s.heap [] := ⟨hWd, va_S.rf⟩
  have hx := C.1
  have hb := C.2.1
  have hl := lv_entry ([.ref (ga g x0)]) (n := 1) (Nat.le_of_ble_eq_true rfl)
  rw [lg_entry_eq]
  generalize (lg_sl ([.ref (ga g x0)]) ++ List.replicate (1 - (lg_sl ([.ref (ga g x0)])).length) Slot.unset).toArray = ls at hl ⊢
  have hl : lv_has ls 1 [(0, .ref (ga g x0))] := hl
  generalize hH : s.heap = H at S ⊢
  generalize hlc : ([] : List Loc) = locs at S ⊢
  rw [f_X10_begin] at h
  refine lv_aload_n hx hb dX10_begin_0 rfl (lv_at hl 0 rfl) ?_
  refine lv_iconst (v := (0 : Int32)) hx hb dX10_begin_1 (by decide) ?_
  obtain ⟨σ1, hs1, h⟩ := sq_el h
  refine x_putI C S KX10 hx0 2 (by decide) rfl rfl rfl ⟨rfl, rfl⟩ fl_RX10_22 dX10_begin_2 hs1 (fun H locs S => ?_)
  refine lv_aload_n hx hb dX10_begin_5 rfl (lv_at hl 0 rfl) ?_
  refine lv_iconst (v := (-1 : Int32)) hx hb dX10_begin_6 (by decide) ?_
  obtain ⟨σ2, hs2, h⟩ := sq_el h
  refine x_putI C S KX10 hx0 3 (by decide) rfl rfl rfl ⟨rfl, rfl⟩ fl_RX10_15 dX10_begin_7 hs2 (fun H locs S => ?_)
  refine lv_aload_n hx hb dX10_begin_10 rfl (lv_at hl 0 rfl) ?_
  refine lv_iconst (v := (0 : Int32)) hx hb dX10_begin_11 (by decide) ?_
  obtain ⟨σ3, hs3, h⟩ := sq_el h
  refine x_putI C S KX10 hx0 4 (by decide) rfl rfl rfl ⟨rfl, rfl⟩ fl_RX10_25 dX10_begin_12 hs3 (fun H locs S => ?_)
  exact x_vret C S hr h dX10_begin_15
theorem dX10_failed_0 : decode cX10_failed 0 = .ok (.aload_n 0, 1) := by decide +kernel
theorem dX10_failed_1 : decode cX10_failed 1 = .ok (.getfield 25, 3) := by decide +kernel
theorem dX10_failed_4 : decode cX10_failed 4 = .ok (.ifCond .eq 7, 3) := by decide +kernel
theorem dX10_failed_7 : decode cX10_failed 7 = .ok (.iconst 1, 1) := by decide +kernel
theorem dX10_failed_8 : decode cX10_failed 8 = .ok (.goto 4, 3) := by decide +kernel
theorem dX10_failed_11 : decode cX10_failed 11 = .ok (.iconst 0, 1) := by decide +kernel
theorem dX10_failed_12 : decode cX10_failed 12 = .ok (.ireturn, 1) := by decide +kernel
def f_X10_failed (N : Nat) (R : Nat → Nat → Nat) (σ : SI) (x0 : Nat) : Option (Int32 × SI) := if (σ x0 4) = 0 then (some ((0 : Int32), σ)) else (some ((1 : Int32), σ))
set_option maxHeartbeats 4000000 in
set_option maxRecDepth 100000 in
theorem ok_X10_failed {l : Launch} {g : GL} {R : Nat → Nat → Nat} {L : Nat → Nat → Int64} {N : Nat} {σ : SI} {x0 : Nat} {r : (Int32 × SI)} (h : f_X10_failed N R σ x0 = some r) (hSh : ShR R) (hx0 : Ok 202 x0 10) : Ct l g 1 yX10_failed cX10_failed 1 (some .boolean) 202 202 0 0 [.ref (ga g x0)] (mkS σ R L) (PI R L r) := by
  refine Met.ofW (cc := cX10_failed) (maxL := 1) (ret := (some .boolean)) (by decide) rfl ?_
  intro p e s m args below meth c s₁ B hml hv
  obtain ⟨rfl, hE, hLo, hWd⟩ := hv
  have hr : meth.sig.returnType = (some .boolean) := B.returns
  have C : Cx l g p s m meth c cX10_failed 1 RX10 := ⟨B.exec, B.bytes, hml, findClass_of_methodNamed B.named, hE, hLo, B.notSynchronized⟩
  have S : S2 g s σ R L s.heap [] := ⟨hWd, va_S.rf⟩
  have hx := C.1
  have hb := C.2.1
  have hl := lv_entry ([.ref (ga g x0)]) (n := 1) (Nat.le_of_ble_eq_true rfl)
  rw [lg_entry_eq]
  generalize (lg_sl ([.ref (ga g x0)]) ++ List.replicate (1 - (lg_sl ([.ref (ga g x0)])).length) Slot.unset).toArray = ls at hl ⊢
  have hl : lv_has ls 1 [(0, .ref (ga g x0))] := hl
  generalize hH : s.heap = H at S ⊢
  generalize hlc : ([] : List Loc) = locs at S ⊢
  rw [f_X10_failed] at h
  refine lv_aload_n hx hb dX10_failed_0 rfl (lv_at hl 0 rfl) ?_
  refine x_getI C S KX10 hx0 4 (by decide) rfl rfl fl_RX10_25 dX10_failed_1 ?_
  refine lv_if_eq (tgt := 11) hx hb dX10_failed_4 (by decide) (fun c1 => ?_) (fun c1 => ?_)
  · have h := it_p c1 h
    refine lv_iconst (v := (0 : Int32)) hx hb dX10_failed_11 (by decide) ?_
    exact x_zret C S hr (by decide) h dX10_failed_12
  · have h := it_n c1 h
    refine lv_iconst (v := (1 : Int32)) hx hb dX10_failed_7 (by decide) ?_
    refine lv_goto (tgt := 12) hx hb dX10_failed_8 (by decide) ?_
    exact x_zret C S hr (by decide) h dX10_failed_12
theorem dX10_fail_0 : decode cX10_fail 0 = .ok (.aload_n 0, 1) := by decide +kernel
theorem dX10_fail_1 : decode cX10_fail 1 = .ok (.getfield 25, 3) := by decide +kernel
theorem dX10_fail_4 : decode cX10_fail 4 = .ok (.ifCond .ne 13, 3) := by decide +kernel
theorem dX10_fail_7 : decode cX10_fail 7 = .ok (.aload_n 0, 1) := by decide +kernel
theorem dX10_fail_8 : decode cX10_fail 8 = .ok (.iload_n 1, 1) := by decide +kernel
theorem dX10_fail_9 : decode cX10_fail 9 = .ok (.putfield 15, 3) := by decide +kernel
theorem dX10_fail_12 : decode cX10_fail 12 = .ok (.aload_n 0, 1) := by decide +kernel
theorem dX10_fail_13 : decode cX10_fail 13 = .ok (.iload_n 2, 1) := by decide +kernel
theorem dX10_fail_14 : decode cX10_fail 14 = .ok (.putfield 25, 3) := by decide +kernel
theorem dX10_fail_17 : decode cX10_fail 17 = .ok (.return_, 1) := by decide +kernel
def f_X10_fail (N : Nat) (R : Nat → Nat → Nat) (σ : SI) (x0 : Nat) (x1 : Int32) (x2 : Int32) : Option (Unit × SI) := if (σ x0 4) = 0 then (sq (up σ x0 3 x1) (fun σ2 => sq (up σ2 x0 4 x2) (fun σ3 => some ((), σ3)))) else (some ((), σ))
set_option maxHeartbeats 4000000 in
set_option maxRecDepth 100000 in
theorem ok_X10_fail {l : Launch} {g : GL} {R : Nat → Nat → Nat} {L : Nat → Nat → Int64} {N : Nat} {σ : SI} {x0 : Nat} {x1 : Int32} {x2 : Int32} {r : (Unit × SI)} (h : f_X10_fail N R σ x0 x1 x2 = some r) (hSh : ShR R) (hx0 : Ok 202 x0 10) : Ct l g 1 yX10_fail cX10_fail 3 none 202 202 0 0 [.ref (ga g x0), .int x1, .int x2] (mkS σ R L) (PV R L r) := by
  refine Met.ofW (cc := cX10_fail) (maxL := 3) (ret := none) (by decide) rfl ?_
  intro p e s m args below meth c s₁ B hml hv
  obtain ⟨rfl, hE, hLo, hWd⟩ := hv
  have hr : meth.sig.returnType = none := B.returns
  have C : Cx l g p s m meth c cX10_fail 3 RX10 := ⟨B.exec, B.bytes, hml, findClass_of_methodNamed B.named, hE, hLo, B.notSynchronized⟩
  have S : S2 g s σ R L s.heap [] := ⟨hWd, va_S.rf⟩
  have hx := C.1
  have hb := C.2.1
  have hl := lv_entry ([.ref (ga g x0), .int x1, .int x2]) (n := 3) (Nat.le_of_ble_eq_true rfl)
  rw [lg_entry_eq]
  generalize (lg_sl ([.ref (ga g x0), .int x1, .int x2]) ++ List.replicate (3 - (lg_sl ([.ref (ga g x0), .int x1, .int x2])).length) Slot.unset).toArray = ls at hl ⊢
  have hl : lv_has ls 3 [(0, .ref (ga g x0)), (1, .int x1), (2, .int x2)] := hl
  generalize hH : s.heap = H at S ⊢
  generalize hlc : ([] : List Loc) = locs at S ⊢
  rw [f_X10_fail] at h
  refine lv_aload_n hx hb dX10_fail_0 rfl (lv_at hl 0 rfl) ?_
  refine x_getI C S KX10 hx0 4 (by decide) rfl rfl fl_RX10_25 dX10_fail_1 ?_
  refine lv_if_ne (tgt := 17) hx hb dX10_fail_4 (by decide) (fun c1 => ?_) (fun c1 => ?_)
  · have h := it_n c1 h
    exact x_vret C S hr h dX10_fail_17
  · have h := it_p c1 h
    refine lv_aload_n hx hb dX10_fail_7 rfl (lv_at hl 0 rfl) ?_
    refine lv_iload_n hx hb dX10_fail_8 rfl (lv_at hl 1 rfl) ?_
    obtain ⟨σ2, hs2, h⟩ := sq_el h
    refine x_putI C S KX10 hx0 3 (by decide) rfl rfl rfl ⟨rfl, rfl⟩ fl_RX10_15 dX10_fail_9 hs2 (fun H locs S => ?_)
    refine lv_aload_n hx hb dX10_fail_12 rfl (lv_at hl 0 rfl) ?_
    refine lv_iload_n hx hb dX10_fail_13 rfl (lv_at hl 2 rfl) ?_
    obtain ⟨σ3, hs3, h⟩ := sq_el h
    refine x_putI C S KX10 hx0 4 (by decide) rfl rfl rfl ⟨rfl, rfl⟩ fl_RX10_25 dX10_fail_14 hs3 (fun H locs S => ?_)
    exact x_vret C S hr h dX10_fail_17
theorem dX10_skipSpaces_0 : decode cX10_skipSpaces 0 = .ok (.aload_n 0, 1) := by decide +kernel
theorem dX10_skipSpaces_1 : decode cX10_skipSpaces 1 = .ok (.getfield 22, 3) := by decide +kernel
theorem dX10_skipSpaces_4 : decode cX10_skipSpaces 4 = .ok (.aload_n 0, 1) := by decide +kernel
theorem dX10_skipSpaces_5 : decode cX10_skipSpaces 5 = .ok (.getfield 19, 3) := by decide +kernel
theorem dX10_skipSpaces_8 : decode cX10_skipSpaces 8 = .ok (.if_icmp .ge 58, 3) := by decide +kernel
theorem dX10_skipSpaces_11 : decode cX10_skipSpaces 11 = .ok (.aload_n 0, 1) := by decide +kernel
theorem dX10_skipSpaces_12 : decode cX10_skipSpaces 12 = .ok (.getfield 9, 3) := by decide +kernel
theorem dX10_skipSpaces_15 : decode cX10_skipSpaces 15 = .ok (.aload_n 0, 1) := by decide +kernel
theorem dX10_skipSpaces_16 : decode cX10_skipSpaces 16 = .ok (.getfield 22, 3) := by decide +kernel
theorem dX10_skipSpaces_19 : decode cX10_skipSpaces 19 = .ok (.baload, 1) := by decide +kernel
theorem dX10_skipSpaces_20 : decode cX10_skipSpaces 20 = .ok (.bipush 32, 2) := by decide +kernel
theorem dX10_skipSpaces_22 : decode cX10_skipSpaces 22 = .ok (.if_icmp .eq 31, 3) := by decide +kernel
theorem dX10_skipSpaces_25 : decode cX10_skipSpaces 25 = .ok (.aload_n 0, 1) := by decide +kernel
theorem dX10_skipSpaces_26 : decode cX10_skipSpaces 26 = .ok (.getfield 9, 3) := by decide +kernel
theorem dX10_skipSpaces_29 : decode cX10_skipSpaces 29 = .ok (.aload_n 0, 1) := by decide +kernel
theorem dX10_skipSpaces_30 : decode cX10_skipSpaces 30 = .ok (.getfield 22, 3) := by decide +kernel
theorem dX10_skipSpaces_33 : decode cX10_skipSpaces 33 = .ok (.baload, 1) := by decide +kernel
theorem dX10_skipSpaces_34 : decode cX10_skipSpaces 34 = .ok (.bipush 9, 2) := by decide +kernel
theorem dX10_skipSpaces_36 : decode cX10_skipSpaces 36 = .ok (.if_icmp .eq 17, 3) := by decide +kernel
theorem dX10_skipSpaces_39 : decode cX10_skipSpaces 39 = .ok (.aload_n 0, 1) := by decide +kernel
theorem dX10_skipSpaces_40 : decode cX10_skipSpaces 40 = .ok (.getfield 9, 3) := by decide +kernel
theorem dX10_skipSpaces_43 : decode cX10_skipSpaces 43 = .ok (.aload_n 0, 1) := by decide +kernel
theorem dX10_skipSpaces_44 : decode cX10_skipSpaces 44 = .ok (.getfield 22, 3) := by decide +kernel
theorem dX10_skipSpaces_47 : decode cX10_skipSpaces 47 = .ok (.baload, 1) := by decide +kernel
theorem dX10_skipSpaces_48 : decode cX10_skipSpaces 48 = .ok (.bipush 10, 2) := by decide +kernel
theorem dX10_skipSpaces_50 : decode cX10_skipSpaces 50 = .ok (.if_icmp .ne 16, 3) := by decide +kernel
theorem dX10_skipSpaces_53 : decode cX10_skipSpaces 53 = .ok (.aload_n 0, 1) := by decide +kernel
theorem dX10_skipSpaces_54 : decode cX10_skipSpaces 54 = .ok (.dup, 1) := by decide +kernel
theorem dX10_skipSpaces_55 : decode cX10_skipSpaces 55 = .ok (.getfield 22, 3) := by decide +kernel
theorem dX10_skipSpaces_58 : decode cX10_skipSpaces 58 = .ok (.iconst 1, 1) := by decide +kernel
theorem dX10_skipSpaces_59 : decode cX10_skipSpaces 59 = .ok (.iadd, 1) := by decide +kernel
theorem dX10_skipSpaces_60 : decode cX10_skipSpaces 60 = .ok (.putfield 22, 3) := by decide +kernel
theorem dX10_skipSpaces_63 : decode cX10_skipSpaces 63 = .ok (.goto (-63), 3) := by decide +kernel
theorem dX10_skipSpaces_66 : decode cX10_skipSpaces 66 = .ok (.return_, 1) := by decide +kernel
def f_X10_skipSpaces_53 (N : Nat) (R : Nat → Nat → Nat) (k0 : SI → Nat → Option (Unit × SI)) (σ : SI) (x0 : Nat) : Option (Unit × SI) := sq (up σ x0 2 ((σ x0 2) + (1 : Int32))) (fun σ5 => k0 σ5 x0)
def f_X10_skipSpaces_0 (N : Nat) (R : Nat → Nat → Nat) : Nat → SI → Nat → Option (Unit × SI)
  | 0, _, _ => none
  | n + 1, σ, x0 => if (σ x0 1) ≤ (σ x0 2) then (some ((), σ)) else (ck (σ x0 2) 800 (if (σ (R x0 0) (σ x0 2).toNatClampNeg) = (32 : Int32) then (f_X10_skipSpaces_53 N R (fun σ x0 => f_X10_skipSpaces_0 N R n σ x0) σ x0) else (ck (σ x0 2) 800 (if (σ (R x0 0) (σ x0 2).toNatClampNeg) = (9 : Int32) then (f_X10_skipSpaces_53 N R (fun σ x0 => f_X10_skipSpaces_0 N R n σ x0) σ x0) else (ck (σ x0 2) 800 (if (σ (R x0 0) (σ x0 2).toNatClampNeg) = (10 : Int32) then (f_X10_skipSpaces_53 N R (fun σ x0 => f_X10_skipSpaces_0 N R n σ x0) σ x0) else (some ((), σ))))))))
def f_X10_skipSpaces (N : Nat) (R : Nat → Nat → Nat) (σ : SI) (x0 : Nat) : Option (Unit × SI) := f_X10_skipSpaces_0 N R N σ x0
set_option maxHeartbeats 4000000 in
set_option maxRecDepth 100000 in
theorem w_X10_skipSpaces_53 {l : Launch} {g : GL} {p : Program} {e : Jvm.Env} {s : State} {m : MethodId} {args : Array Value} {below : List Frame} {meth : Method} {c : Code} {R : Nat → Nat → Nat} {L : Nat → Nat → Int64} {r : (Unit × SI)} {N : Nat} {k0 : SI → Nat → Option (Unit × SI)} (C : Cx l g p s m meth c cX10_skipSpaces 1 RX10) (hr : meth.sig.returnType = none) (hSh : ShR R) (hk0 : ∀ (σ : SI) (x0 : Nat), k0 σ x0 = some r → Ok 202 x0 10 → ∀ (H : Heap) (locs : List Loc) (ls : Array Slot), S2 g s σ R L H locs → lv_has ls 1 [(0, .ref (ga g x0))] → W p l e (rmd 1 0 0) s m args below meth c H locs 0 0 (MQ below (Qg g 202 (PV R L r)) args s 0 0 (gA g)) (F0 m 0 ls [])) : ∀ (σ : SI) (x0 : Nat), f_X10_skipSpaces_53 N R k0 σ x0 = some r → Ok 202 x0 10 → ∀ (H : Heap) (locs : List Loc) (ls : Array Slot), S2 g s σ R L H locs → lv_has ls 1 [(0, .ref (ga g x0))] → W p l e (rmd 1 0 0) s m args below meth c H locs 0 0 (MQ below (Qg g 202 (PV R L r)) args s 0 0 (gA g)) (F0 m 53 ls []) := by
  have hx := C.1
  have hb := C.2.1
  intro σ x0 h hx0 H locs ls S hl
  rw [f_X10_skipSpaces_53] at h
  refine lv_aload_n hx hb dX10_skipSpaces_53 rfl (lv_at hl 0 rfl) ?_
  refine lv_dup hx hb dX10_skipSpaces_54 rfl ?_
  refine x_getI C S KX10 hx0 2 (by decide) rfl rfl fl_RX10_22 dX10_skipSpaces_55 ?_
  refine lv_iconst (v := (1 : Int32)) hx hb dX10_skipSpaces_58 (by decide) ?_
  refine lv_iadd hx hb dX10_skipSpaces_59 ?_
  obtain ⟨σ5, hs5, h⟩ := sq_el h
  refine x_putI C S KX10 hx0 2 (by decide) rfl rfl rfl ⟨rfl, rfl⟩ fl_RX10_22 dX10_skipSpaces_60 hs5 (fun H locs S => ?_)
  refine lv_goto (tgt := 0) hx hb dX10_skipSpaces_63 (by decide) ?_
  exact hk0 σ5 x0 h hx0 H locs ls S (lv_sub hl [0] rfl)
set_option maxHeartbeats 4000000 in
set_option maxRecDepth 100000 in
theorem w_X10_skipSpaces_0 {l : Launch} {g : GL} {p : Program} {e : Jvm.Env} {s : State} {m : MethodId} {args : Array Value} {below : List Frame} {meth : Method} {c : Code} {R : Nat → Nat → Nat} {L : Nat → Nat → Int64} {r : (Unit × SI)} {N : Nat} (C : Cx l g p s m meth c cX10_skipSpaces 1 RX10) (hr : meth.sig.returnType = none) (hSh : ShR R) : ∀ (n : Nat) (σ : SI) (x0 : Nat), f_X10_skipSpaces_0 N R n σ x0 = some r → Ok 202 x0 10 → ∀ (H : Heap) (locs : List Loc) (ls : Array Slot), S2 g s σ R L H locs → lv_has ls 1 [(0, .ref (ga g x0))] → W p l e (rmd 1 0 0) s m args below meth c H locs 0 0 (MQ below (Qg g 202 (PV R L r)) args s 0 0 (gA g)) (F0 m 0 ls []) := by
  have hx := C.1
  have hb := C.2.1
  intro n
  induction n with
  | zero =>
    intro σ x0 h
    cases (show (none : Option (Unit × SI)) = some r from h)
  | succ n ih =>
    intro σ x0 h hx0 H locs ls S hl
    rw [f_X10_skipSpaces_0] at h
    refine lv_aload_n hx hb dX10_skipSpaces_0 rfl (lv_at hl 0 rfl) ?_
    refine x_getI C S KX10 hx0 2 (by decide) rfl rfl fl_RX10_22 dX10_skipSpaces_1 ?_
    refine lv_aload_n hx hb dX10_skipSpaces_4 rfl (lv_at hl 0 rfl) ?_
    refine x_getI C S KX10 hx0 1 (by decide) rfl rfl fl_RX10_19 dX10_skipSpaces_5 ?_
    refine lv_icmp_ge (tgt := 66) hx hb dX10_skipSpaces_8 (by decide) (fun c1 => ?_) (fun c1 => ?_)
    · have h := it_p c1 h
      exact x_vret C S hr h dX10_skipSpaces_66
    · have h := it_n c1 h
      refine lv_aload_n hx hb dX10_skipSpaces_11 rfl (lv_at hl 0 rfl) ?_
      have hR2 : Ok 202 (R x0 0) 20800 := hSh x0 10 0 20800 hx0.1 rfl
      refine x_getR C S KX10 hx0 0 (by decide) rfl rfl fl_RX10_9 hR2 dX10_skipSpaces_12 ?_
      refine lv_aload_n hx hb dX10_skipSpaces_15 rfl (lv_at hl 0 rfl) ?_
      refine x_getI C S KX10 hx0 2 (by decide) rfl rfl fl_RX10_22 dX10_skipSpaces_16 ?_
      obtain ⟨hi3, h⟩ := ck_el h
      refine x_bald (len := 800) C S (by decide) hR2 hi3 dX10_skipSpaces_19 ?_
      refine lv_bipush (v := (32 : Int32)) hx hb dX10_skipSpaces_20 (by decide) ?_
      refine lv_icmp_eq (tgt := 53) hx hb dX10_skipSpaces_22 (by decide) (fun c4 => ?_) (fun c4 => ?_)
      · have h := it_p c4 h
        exact w_X10_skipSpaces_53 C hr hSh ih σ x0 h hx0 H locs ls S (lv_sub hl [0] rfl)
      · have h := it_n c4 h
        refine lv_aload_n hx hb dX10_skipSpaces_25 rfl (lv_at hl 0 rfl) ?_
        have hR6 : Ok 202 (R x0 0) 20800 := hSh x0 10 0 20800 hx0.1 rfl
        refine x_getR C S KX10 hx0 0 (by decide) rfl rfl fl_RX10_9 hR6 dX10_skipSpaces_26 ?_
        refine lv_aload_n hx hb dX10_skipSpaces_29 rfl (lv_at hl 0 rfl) ?_
        refine x_getI C S KX10 hx0 2 (by decide) rfl rfl fl_RX10_22 dX10_skipSpaces_30 ?_
        obtain ⟨hi7, h⟩ := ck_el h
        refine x_bald (len := 800) C S (by decide) hR6 hi7 dX10_skipSpaces_33 ?_
        refine lv_bipush (v := (9 : Int32)) hx hb dX10_skipSpaces_34 (by decide) ?_
        refine lv_icmp_eq (tgt := 53) hx hb dX10_skipSpaces_36 (by decide) (fun c8 => ?_) (fun c8 => ?_)
        · have h := it_p c8 h
          exact w_X10_skipSpaces_53 C hr hSh ih σ x0 h hx0 H locs ls S (lv_sub hl [0] rfl)
        · have h := it_n c8 h
          refine lv_aload_n hx hb dX10_skipSpaces_39 rfl (lv_at hl 0 rfl) ?_
          have hR9 : Ok 202 (R x0 0) 20800 := hSh x0 10 0 20800 hx0.1 rfl
          refine x_getR C S KX10 hx0 0 (by decide) rfl rfl fl_RX10_9 hR9 dX10_skipSpaces_40 ?_
          refine lv_aload_n hx hb dX10_skipSpaces_43 rfl (lv_at hl 0 rfl) ?_
          refine x_getI C S KX10 hx0 2 (by decide) rfl rfl fl_RX10_22 dX10_skipSpaces_44 ?_
          obtain ⟨hi10, h⟩ := ck_el h
          refine x_bald (len := 800) C S (by decide) hR9 hi10 dX10_skipSpaces_47 ?_
          refine lv_bipush (v := (10 : Int32)) hx hb dX10_skipSpaces_48 (by decide) ?_
          refine lv_icmp_ne (tgt := 66) hx hb dX10_skipSpaces_50 (by decide) (fun c11 => ?_) (fun c11 => ?_)
          · have h := it_n c11 h
            exact x_vret C S hr h dX10_skipSpaces_66
          · have h := it_p c11 h
            exact w_X10_skipSpaces_53 C hr hSh ih σ x0 h hx0 H locs ls S (lv_sub hl [0] rfl)
set_option maxHeartbeats 4000000 in
set_option maxRecDepth 100000 in
theorem ok_X10_skipSpaces {l : Launch} {g : GL} {R : Nat → Nat → Nat} {L : Nat → Nat → Int64} {N : Nat} {σ : SI} {x0 : Nat} {r : (Unit × SI)} (h : f_X10_skipSpaces N R σ x0 = some r) (hSh : ShR R) (hx0 : Ok 202 x0 10) : Ct l g 1 yX10_skipSpaces cX10_skipSpaces 1 none 202 202 0 0 [.ref (ga g x0)] (mkS σ R L) (PV R L r) := by
  refine Met.ofW (cc := cX10_skipSpaces) (maxL := 1) (ret := none) (by decide) rfl ?_
  intro p e s m args below meth c s₁ B hml hv
  obtain ⟨rfl, hE, hLo, hWd⟩ := hv
  have hr : meth.sig.returnType = none := B.returns
  have C : Cx l g p s m meth c cX10_skipSpaces 1 RX10 := ⟨B.exec, B.bytes, hml, findClass_of_methodNamed B.named, hE, hLo, B.notSynchronized⟩
  have S : S2 g s σ R L s.heap [] := ⟨hWd, va_S.rf⟩
  have hx := C.1
  have hb := C.2.1
  have hl := lv_entry ([.ref (ga g x0)]) (n := 1) (Nat.le_of_ble_eq_true rfl)
  rw [lg_entry_eq]
  generalize (lg_sl ([.ref (ga g x0)]) ++ List.replicate (1 - (lg_sl ([.ref (ga g x0)])).length) Slot.unset).toArray = ls at hl ⊢
  have hl : lv_has ls 1 [(0, .ref (ga g x0))] := hl
  generalize hH : s.heap = H at S ⊢
  generalize hlc : ([] : List Loc) = locs at S ⊢
  rw [f_X10_skipSpaces] at h
  exact w_X10_skipSpaces_0 C hr hSh N σ x0 h hx0 H locs ls S (lv_sub hl [0] rfl)
theorem dX10_endOfRun_0 : decode cX10_endOfRun 0 = .ok (.aload_n 0, 1) := by decide +kernel
theorem dX10_endOfRun_1 : decode cX10_endOfRun 1 = .ok (.getfield 22, 3) := by decide +kernel
theorem dX10_endOfRun_4 : decode cX10_endOfRun 4 = .ok (.istore_n 3, 1) := by decide +kernel
theorem dX10_endOfRun_5 : decode cX10_endOfRun 5 = .ok (.iload_n 3, 1) := by decide +kernel
theorem dX10_endOfRun_6 : decode cX10_endOfRun 6 = .ok (.aload_n 0, 1) := by decide +kernel
theorem dX10_endOfRun_7 : decode cX10_endOfRun 7 = .ok (.getfield 19, 3) := by decide +kernel
theorem dX10_endOfRun_10 : decode cX10_endOfRun 10 = .ok (.if_icmp .ge 29, 3) := by decide +kernel
theorem dX10_endOfRun_13 : decode cX10_endOfRun 13 = .ok (.aload_n 0, 1) := by decide +kernel
theorem dX10_endOfRun_14 : decode cX10_endOfRun 14 = .ok (.getfield 9, 3) := by decide +kernel
theorem dX10_endOfRun_17 : decode cX10_endOfRun 17 = .ok (.iload_n 3, 1) := by decide +kernel
theorem dX10_endOfRun_18 : decode cX10_endOfRun 18 = .ok (.baload, 1) := by decide +kernel
theorem dX10_endOfRun_19 : decode cX10_endOfRun 19 = .ok (.iload_n 1, 1) := by decide +kernel
theorem dX10_endOfRun_20 : decode cX10_endOfRun 20 = .ok (.if_icmp .lt 19, 3) := by decide +kernel
theorem dX10_endOfRun_23 : decode cX10_endOfRun 23 = .ok (.aload_n 0, 1) := by decide +kernel
theorem dX10_endOfRun_24 : decode cX10_endOfRun 24 = .ok (.getfield 9, 3) := by decide +kernel
theorem dX10_endOfRun_27 : decode cX10_endOfRun 27 = .ok (.iload_n 3, 1) := by decide +kernel
theorem dX10_endOfRun_28 : decode cX10_endOfRun 28 = .ok (.baload, 1) := by decide +kernel
theorem dX10_endOfRun_29 : decode cX10_endOfRun 29 = .ok (.iload_n 2, 1) := by decide +kernel
theorem dX10_endOfRun_30 : decode cX10_endOfRun 30 = .ok (.if_icmp .gt 9, 3) := by decide +kernel
theorem dX10_endOfRun_33 : decode cX10_endOfRun 33 = .ok (.iinc 3 1, 3) := by decide +kernel
theorem dX10_endOfRun_36 : decode cX10_endOfRun 36 = .ok (.goto (-31), 3) := by decide +kernel
theorem dX10_endOfRun_39 : decode cX10_endOfRun 39 = .ok (.iload_n 3, 1) := by decide +kernel
theorem dX10_endOfRun_40 : decode cX10_endOfRun 40 = .ok (.ireturn, 1) := by decide +kernel
def f_X10_endOfRun_5 (N : Nat) (R : Nat → Nat → Nat) : Nat → SI → Nat → Int32 → Int32 → Int32 → Option (Int32 × SI)
  | 0, _, _, _, _, _ => none
  | n + 1, σ, x0, x1, x2, x3 => if (σ x0 1) ≤ x3 then (some (x3, σ)) else (ck x3 800 (if (σ (R x0 0) x3.toNatClampNeg) < x1 then (some (x3, σ)) else (ck x3 800 (if x2 < (σ (R x0 0) x3.toNatClampNeg) then (some (x3, σ)) else (f_X10_endOfRun_5 N R n σ x0 x1 x2 (x3 + 1))))))
def f_X10_endOfRun (N : Nat) (R : Nat → Nat → Nat) (σ : SI) (x0 : Nat) (x1 : Int32) (x2 : Int32) : Option (Int32 × SI) := f_X10_endOfRun_5 N R N σ x0 x1 x2 (σ x0 2)
set_option maxHeartbeats 4000000 in
set_option maxRecDepth 100000 in
theorem w_X10_endOfRun_5 {l : Launch} {g : GL} {p : Program} {e : Jvm.Env} {s : State} {m : MethodId} {args : Array Value} {below : List Frame} {meth : Method} {c : Code} {R : Nat → Nat → Nat} {L : Nat → Nat → Int64} {r : (Int32 × SI)} {N : Nat} (C : Cx l g p s m meth c cX10_endOfRun 4 RX10) (hr : meth.sig.returnType = (some .int)) (hSh : ShR R) : ∀ (n : Nat) (σ : SI) (x0 : Nat) (x1 : Int32) (x2 : Int32) (x3 : Int32), f_X10_endOfRun_5 N R n σ x0 x1 x2 x3 = some r → Ok 202 x0 10 → ∀ (H : Heap) (locs : List Loc) (ls : Array Slot), S2 g s σ R L H locs → lv_has ls 4 [(0, .ref (ga g x0)), (1, .int x1), (2, .int x2), (3, .int x3)] → W p l e (rmd 1 0 0) s m args below meth c H locs 0 0 (MQ below (Qg g 202 (PI R L r)) args s 0 0 (gA g)) (F0 m 5 ls []) := by
  have hx := C.1
  have hb := C.2.1
  intro n
  induction n with
  | zero =>
    intro σ x0 x1 x2 x3 h
    cases (show (none : Option (Int32 × SI)) = some r from h)
  | succ n ih =>
    intro σ x0 x1 x2 x3 h hx0 H locs ls S hl
    rw [f_X10_endOfRun_5] at h
    refine lv_iload_n hx hb dX10_endOfRun_5 rfl (lv_at hl 3 rfl) ?_
    refine lv_aload_n hx hb dX10_endOfRun_6 rfl (lv_at hl 0 rfl) ?_
    refine x_getI C S KX10 hx0 1 (by decide) rfl rfl fl_RX10_19 dX10_endOfRun_7 ?_
    refine lv_icmp_ge (tgt := 39) hx hb dX10_endOfRun_10 (by decide) (fun c1 => ?_) (fun c1 => ?_)
    · have h := it_p c1 h
      refine lv_iload_n hx hb dX10_endOfRun_39 rfl (lv_at hl 3 rfl) ?_
      exact x_iret C S hr h dX10_endOfRun_40
    · have h := it_n c1 h
      refine lv_aload_n hx hb dX10_endOfRun_13 rfl (lv_at hl 0 rfl) ?_
      have hR2 : Ok 202 (R x0 0) 20800 := hSh x0 10 0 20800 hx0.1 rfl
      refine x_getR C S KX10 hx0 0 (by decide) rfl rfl fl_RX10_9 hR2 dX10_endOfRun_14 ?_
      refine lv_iload_n hx hb dX10_endOfRun_17 rfl (lv_at hl 3 rfl) ?_
      obtain ⟨hi3, h⟩ := ck_el h
      refine x_bald (len := 800) C S (by decide) hR2 hi3 dX10_endOfRun_18 ?_
      refine lv_iload_n hx hb dX10_endOfRun_19 rfl (lv_at hl 1 rfl) ?_
      refine lv_icmp_lt (tgt := 39) hx hb dX10_endOfRun_20 (by decide) (fun c4 => ?_) (fun c4 => ?_)
      · have h := it_p c4 h
        refine lv_iload_n hx hb dX10_endOfRun_39 rfl (lv_at hl 3 rfl) ?_
        exact x_iret C S hr h dX10_endOfRun_40
      · have h := it_n c4 h
        refine lv_aload_n hx hb dX10_endOfRun_23 rfl (lv_at hl 0 rfl) ?_
        have hR5 : Ok 202 (R x0 0) 20800 := hSh x0 10 0 20800 hx0.1 rfl
        refine x_getR C S KX10 hx0 0 (by decide) rfl rfl fl_RX10_9 hR5 dX10_endOfRun_24 ?_
        refine lv_iload_n hx hb dX10_endOfRun_27 rfl (lv_at hl 3 rfl) ?_
        obtain ⟨hi6, h⟩ := ck_el h
        refine x_bald (len := 800) C S (by decide) hR5 hi6 dX10_endOfRun_28 ?_
        refine lv_iload_n hx hb dX10_endOfRun_29 rfl (lv_at hl 2 rfl) ?_
        refine lv_icmp_gt (tgt := 39) hx hb dX10_endOfRun_30 (by decide) (fun c7 => ?_) (fun c7 => ?_)
        · have h := it_p c7 h
          refine lv_iload_n hx hb dX10_endOfRun_39 rfl (lv_at hl 3 rfl) ?_
          exact x_iret C S hr h dX10_endOfRun_40
        · have h := it_n c7 h
          refine lv_iinc (v := x3 + 1) (lv' := [(3, .int (x3 + 1)), (0, .ref (ga g x0)), (1, .int x1), (2, .int x2)]) hx hb dX10_endOfRun_33 hl (k := 3) rfl rfl (by decide) rfl (fun ls hl => ?_)
          refine lv_goto (tgt := 5) hx hb dX10_endOfRun_36 (by decide) ?_
          exact ih σ x0 x1 x2 (x3 + 1) h hx0 H locs ls S (lv_sub hl [1, 2, 3, 0] rfl)
set_option maxHeartbeats 4000000 in
set_option maxRecDepth 100000 in
theorem ok_X10_endOfRun {l : Launch} {g : GL} {R : Nat → Nat → Nat} {L : Nat → Nat → Int64} {N : Nat} {σ : SI} {x0 : Nat} {x1 : Int32} {x2 : Int32} {r : (Int32 × SI)} (h : f_X10_endOfRun N R σ x0 x1 x2 = some r) (hSh : ShR R) (hx0 : Ok 202 x0 10) : Ct l g 1 yX10_endOfRun cX10_endOfRun 4 (some .int) 202 202 0 0 [.ref (ga g x0), .int x1, .int x2] (mkS σ R L) (PI R L r) := by
  refine Met.ofW (cc := cX10_endOfRun) (maxL := 4) (ret := (some .int)) (by decide) rfl ?_
  intro p e s m args below meth c s₁ B hml hv
  obtain ⟨rfl, hE, hLo, hWd⟩ := hv
  have hr : meth.sig.returnType = (some .int) := B.returns
  have C : Cx l g p s m meth c cX10_endOfRun 4 RX10 := ⟨B.exec, B.bytes, hml, findClass_of_methodNamed B.named, hE, hLo, B.notSynchronized⟩
  have S : S2 g s σ R L s.heap [] := ⟨hWd, va_S.rf⟩
  have hx := C.1
  have hb := C.2.1
  have hl := lv_entry ([.ref (ga g x0), .int x1, .int x2]) (n := 4) (Nat.le_of_ble_eq_true rfl)
  rw [lg_entry_eq]
  generalize (lg_sl ([.ref (ga g x0), .int x1, .int x2]) ++ List.replicate (4 - (lg_sl ([.ref (ga g x0), .int x1, .int x2])).length) Slot.unset).toArray = ls at hl ⊢
  have hl : lv_has ls 4 [(0, .ref (ga g x0)), (1, .int x1), (2, .int x2)] := hl
  generalize hH : s.heap = H at S ⊢
  generalize hlc : ([] : List Loc) = locs at S ⊢
  rw [f_X10_endOfRun] at h
  refine lv_aload_n hx hb dX10_endOfRun_0 rfl (lv_at hl 0 rfl) ?_
  refine x_getI C S KX10 hx0 2 (by decide) rfl rfl fl_RX10_22 dX10_endOfRun_1 ?_
  refine lv_istore_n (lv' := [(3, .int (σ x0 2)), (0, .ref (ga g x0)), (1, .int x1), (2, .int x2)]) hx hb dX10_endOfRun_4 rfl hl (by decide) rfl (fun ls hl => ?_)
  exact w_X10_endOfRun_5 C hr hSh N σ x0 x1 x2 (σ x0 2) h hx0 H locs ls S (lv_sub hl [1, 2, 3, 0] rfl)
theorem dX10_atEnd_0 : decode cX10_atEnd 0 = .ok (.aload_n 0, 1) := by decide +kernel
theorem dX10_atEnd_1 : decode cX10_atEnd 1 = .ok (.invokevirtual 28, 3) := by decide +kernel
theorem dX10_atEnd_4 : decode cX10_atEnd 4 = .ok (.aload_n 0, 1) := by decide +kernel
theorem dX10_atEnd_5 : decode cX10_atEnd 5 = .ok (.getfield 22, 3) := by decide +kernel
theorem dX10_atEnd_8 : decode cX10_atEnd 8 = .ok (.aload_n 0, 1) := by decide +kernel
theorem dX10_atEnd_9 : decode cX10_atEnd 9 = .ok (.getfield 19, 3) := by decide +kernel
theorem dX10_atEnd_12 : decode cX10_atEnd 12 = .ok (.if_icmp .lt 7, 3) := by decide +kernel
theorem dX10_atEnd_15 : decode cX10_atEnd 15 = .ok (.iconst 1, 1) := by decide +kernel
theorem dX10_atEnd_16 : decode cX10_atEnd 16 = .ok (.goto 4, 3) := by decide +kernel
theorem dX10_atEnd_19 : decode cX10_atEnd 19 = .ok (.iconst 0, 1) := by decide +kernel
theorem dX10_atEnd_20 : decode cX10_atEnd 20 = .ok (.ireturn, 1) := by decide +kernel
def f_X10_atEnd (N : Nat) (R : Nat → Nat → Nat) (σ : SI) (x0 : Nat) : Option (Int32 × SI) := bd (f_X10_skipSpaces N R σ x0) (fun _ σ1 => if (σ1 x0 2) < (σ1 x0 1) then (some ((0 : Int32), σ1)) else (some ((1 : Int32), σ1)))
set_option maxHeartbeats 4000000 in
set_option maxRecDepth 100000 in
theorem ok_X10_atEnd {l : Launch} {g : GL} {R : Nat → Nat → Nat} {L : Nat → Nat → Int64} {N : Nat} {σ : SI} {x0 : Nat} {r : (Int32 × SI)} (h : f_X10_atEnd N R σ x0 = some r) (hSh : ShR R) (hx0 : Ok 202 x0 10) : Ct l g 2 yX10_atEnd cX10_atEnd 1 (some .boolean) 202 202 0 0 [.ref (ga g x0)] (mkS σ R L) (PI R L r) := by
  refine Met.ofW (cc := cX10_atEnd) (maxL := 1) (ret := (some .boolean)) (by decide) rfl ?_
  intro p e s m args below meth c s₁ B hml hv
  obtain ⟨rfl, hE, hLo, hWd⟩ := hv
  have hr : meth.sig.returnType = (some .boolean) := B.returns
  have C : Cx l g p s m meth c cX10_atEnd 1 RX10 := ⟨B.exec, B.bytes, hml, findClass_of_methodNamed B.named, hE, hLo, B.notSynchronized⟩
  have S : S2 g s σ R L s.heap [] := ⟨hWd, va_S.rf⟩
  have hx := C.1
  have hb := C.2.1
  have hl := lv_entry ([.ref (ga g x0)]) (n := 1) (Nat.le_of_ble_eq_true rfl)
  rw [lg_entry_eq]
  generalize (lg_sl ([.ref (ga g x0)]) ++ List.replicate (1 - (lg_sl ([.ref (ga g x0)])).length) Slot.unset).toArray = ls at hl ⊢
  have hl : lv_has ls 1 [(0, .ref (ga g x0))] := hl
  generalize hH : s.heap = H at S ⊢
  generalize hlc : ([] : List Loc) = locs at S ⊢
  rw [f_X10_atEnd] at h
  refine lv_aload_n hx hb dX10_atEnd_0 rfl (lv_at hl 0 rfl) ?_
  obtain ⟨a1, σ1, hc1, h⟩ := bd_el h
  refine x_callVV C S KX10 hx0 (ok_X10_skipSpaces (L := L) hc1 hSh hx0) ⟨cd_X10_skipSpaces, ni_RX10, ml_RX10_28, in_X10_skipSpaces, sl_X10_skipSpaces⟩ ⟨by decide, by decide⟩ rfl (rm_ok (by decide) (by decide)) hl.1 rfl (Nat.le_of_ble_eq_true rfl) ⟨by decide, by decide⟩ dX10_atEnd_1 (fun H locs S => ?_)
  refine lv_aload_n hx hb dX10_atEnd_4 rfl (lv_at hl 0 rfl) ?_
  refine x_getI C S KX10 hx0 2 (by decide) rfl rfl fl_RX10_22 dX10_atEnd_5 ?_
  refine lv_aload_n hx hb dX10_atEnd_8 rfl (lv_at hl 0 rfl) ?_
  refine x_getI C S KX10 hx0 1 (by decide) rfl rfl fl_RX10_19 dX10_atEnd_9 ?_
  refine lv_icmp_lt (tgt := 19) hx hb dX10_atEnd_12 (by decide) (fun c2 => ?_) (fun c2 => ?_)
  · have h := it_p c2 h
    refine lv_iconst (v := (0 : Int32)) hx hb dX10_atEnd_19 (by decide) ?_
    exact x_zret C S hr (by decide) h dX10_atEnd_20
  · have h := it_n c2 h
    refine lv_iconst (v := (1 : Int32)) hx hb dX10_atEnd_15 (by decide) ?_
    refine lv_goto (tgt := 20) hx hb dX10_atEnd_16 (by decide) ?_
    exact x_zret C S hr (by decide) h dX10_atEnd_20
theorem dX10_numberFollows_0 : decode cX10_numberFollows 0 = .ok (.aload_n 0, 1) := by decide +kernel
theorem dX10_numberFollows_1 : decode cX10_numberFollows 1 = .ok (.invokevirtual 28, 3) := by decide +kernel
theorem dX10_numberFollows_4 : decode cX10_numberFollows 4 = .ok (.aload_n 0, 1) := by decide +kernel
theorem dX10_numberFollows_5 : decode cX10_numberFollows 5 = .ok (.bipush 48, 2) := by decide +kernel
theorem dX10_numberFollows_7 : decode cX10_numberFollows 7 = .ok (.bipush 57, 2) := by decide +kernel
theorem dX10_numberFollows_9 : decode cX10_numberFollows 9 = .ok (.invokevirtual 31, 3) := by decide +kernel
theorem dX10_numberFollows_12 : decode cX10_numberFollows 12 = .ok (.aload_n 0, 1) := by decide +kernel
theorem dX10_numberFollows_13 : decode cX10_numberFollows 13 = .ok (.getfield 22, 3) := by decide +kernel
theorem dX10_numberFollows_16 : decode cX10_numberFollows 16 = .ok (.if_icmp .le 7, 3) := by decide +kernel
theorem dX10_numberFollows_19 : decode cX10_numberFollows 19 = .ok (.iconst 1, 1) := by decide +kernel
theorem dX10_numberFollows_20 : decode cX10_numberFollows 20 = .ok (.goto 4, 3) := by decide +kernel
theorem dX10_numberFollows_23 : decode cX10_numberFollows 23 = .ok (.iconst 0, 1) := by decide +kernel
theorem dX10_numberFollows_24 : decode cX10_numberFollows 24 = .ok (.ireturn, 1) := by decide +kernel
def f_X10_numberFollows (N : Nat) (R : Nat → Nat → Nat) (σ : SI) (x0 : Nat) : Option (Int32 × SI) := bd (f_X10_skipSpaces N R σ x0) (fun _ σ1 => bd (f_X10_endOfRun N R σ1 x0 (48 : Int32) (57 : Int32)) (fun a2 σ2 => if a2 ≤ (σ2 x0 2) then (some ((0 : Int32), σ2)) else (some ((1 : Int32), σ2))))
set_option maxHeartbeats 4000000 in
set_option maxRecDepth 100000 in
theorem ok_X10_numberFollows {l : Launch} {g : GL} {R : Nat → Nat → Nat} {L : Nat → Nat → Int64} {N : Nat} {σ : SI} {x0 : Nat} {r : (Int32 × SI)} (h : f_X10_numberFollows N R σ x0 = some r) (hSh : ShR R) (hx0 : Ok 202 x0 10) : Ct l g 2 yX10_numberFollows cX10_numberFollows 1 (some .boolean) 202 202 0 0 [.ref (ga g x0)] (mkS σ R L) (PI R L r) := by
  refine Met.ofW (cc := cX10_numberFollows) (maxL := 1) (ret := (some .boolean)) (by decide) rfl ?_
  intro p e s m args below meth c s₁ B hml hv
  obtain ⟨rfl, hE, hLo, hWd⟩ := hv
  have hr : meth.sig.returnType = (some .boolean) := B.returns
  have C : Cx l g p s m meth c cX10_numberFollows 1 RX10 := ⟨B.exec, B.bytes, hml, findClass_of_methodNamed B.named, hE, hLo, B.notSynchronized⟩
  have S : S2 g s σ R L s.heap [] := ⟨hWd, va_S.rf⟩
  have hx := C.1
  have hb := C.2.1
  have hl := lv_entry ([.ref (ga g x0)]) (n := 1) (Nat.le_of_ble_eq_true rfl)
  rw [lg_entry_eq]
  generalize (lg_sl ([.ref (ga g x0)]) ++ List.replicate (1 - (lg_sl ([.ref (ga g x0)])).length) Slot.unset).toArray = ls at hl ⊢
  have hl : lv_has ls 1 [(0, .ref (ga g x0))] := hl
  generalize hH : s.heap = H at S ⊢
  generalize hlc : ([] : List Loc) = locs at S ⊢
  rw [f_X10_numberFollows] at h
  refine lv_aload_n hx hb dX10_numberFollows_0 rfl (lv_at hl 0 rfl) ?_
  obtain ⟨a1, σ1, hc1, h⟩ := bd_el h
  refine x_callVV C S KX10 hx0 (ok_X10_skipSpaces (L := L) hc1 hSh hx0) ⟨cd_X10_skipSpaces, ni_RX10, ml_RX10_28, in_X10_skipSpaces, sl_X10_skipSpaces⟩ ⟨by decide, by decide⟩ rfl (rm_ok (by decide) (by decide)) hl.1 rfl (Nat.le_of_ble_eq_true rfl) ⟨by decide, by decide⟩ dX10_numberFollows_1 (fun H locs S => ?_)
  refine lv_aload_n hx hb dX10_numberFollows_4 rfl (lv_at hl 0 rfl) ?_
  refine lv_bipush (v := (48 : Int32)) hx hb dX10_numberFollows_5 (by decide) ?_
  refine lv_bipush (v := (57 : Int32)) hx hb dX10_numberFollows_7 (by decide) ?_
  obtain ⟨a2, σ2, hc2, h⟩ := bd_el h
  refine x_callVI C S KX10 hx0 (ok_X10_endOfRun (L := L) hc2 hSh hx0) ⟨cd_X10_endOfRun, ni_RX10, ml_RX10_31, in_X10_endOfRun, sl_X10_endOfRun⟩ ⟨by decide, by decide⟩ rfl (rm_ok (by decide) (by decide)) hl.1 rfl (Nat.le_of_ble_eq_true rfl) ⟨by decide, by decide⟩ dX10_numberFollows_9 (fun H locs S => ?_)
  refine lv_aload_n hx hb dX10_numberFollows_12 rfl (lv_at hl 0 rfl) ?_
  refine x_getI C S KX10 hx0 2 (by decide) rfl rfl fl_RX10_22 dX10_numberFollows_13 ?_
  refine lv_icmp_le (tgt := 23) hx hb dX10_numberFollows_16 (by decide) (fun c3 => ?_) (fun c3 => ?_)
  · have h := it_p c3 h
    refine lv_iconst (v := (0 : Int32)) hx hb dX10_numberFollows_23 (by decide) ?_
    exact x_zret C S hr (by decide) h dX10_numberFollows_24
  · have h := it_n c3 h
    refine lv_iconst (v := (1 : Int32)) hx hb dX10_numberFollows_19 (by decide) ?_
    refine lv_goto (tgt := 24) hx hb dX10_numberFollows_20 (by decide) ?_
    exact x_zret C S hr (by decide) h dX10_numberFollows_24
theorem dX10_need_0 : decode cX10_need 0 = .ok (.iload_n 1, 1) := by decide +kernel
theorem dX10_need_1 : decode cX10_need 1 = .ok (.ifCond .ne 12, 3) := by decide +kernel
theorem dX10_need_4 : decode cX10_need 4 = .ok (.aload_n 0, 1) := by decide +kernel
theorem dX10_need_5 : decode cX10_need 5 = .ok (.aload_n 0, 1) := by decide +kernel
theorem dX10_need_6 : decode cX10_need 6 = .ok (.getfield 22, 3) := by decide +kernel
theorem dX10_need_9 : decode cX10_need 9 = .ok (.iconst 1, 1) := by decide +kernel
theorem dX10_need_10 : decode cX10_need 10 = .ok (.invokevirtual 35, 3) := by decide +kernel
theorem dX10_need_13 : decode cX10_need 13 = .ok (.return_, 1) := by decide +kernel
def f_X10_need (N : Nat) (R : Nat → Nat → Nat) (σ : SI) (x0 : Nat) (x1 : Int32) : Option (Unit × SI) := if x1 = 0 then (bd (f_X10_fail N R σ x0 (σ x0 2) (1 : Int32)) (fun _ σ2 => some ((), σ2))) else (some ((), σ))
set_option maxHeartbeats 4000000 in
set_option maxRecDepth 100000 in
theorem ok_X10_need {l : Launch} {g : GL} {R : Nat → Nat → Nat} {L : Nat → Nat → Int64} {N : Nat} {σ : SI} {x0 : Nat} {x1 : Int32} {r : (Unit × SI)} (h : f_X10_need N R σ x0 x1 = some r) (hSh : ShR R) (hx0 : Ok 202 x0 10) : Ct l g 2 yX10_need cX10_need 2 none 202 202 0 0 [.ref (ga g x0), .int x1] (mkS σ R L) (PV R L r) := by
  refine Met.ofW (cc := cX10_need) (maxL := 2) (ret := none) (by decide) rfl ?_
  intro p e s m args below meth c s₁ B hml hv
  obtain ⟨rfl, hE, hLo, hWd⟩ := hv
  have hr : meth.sig.returnType = none := B.returns
  have C : Cx l g p s m meth c cX10_need 2 RX10 := ⟨B.exec, B.bytes, hml, findClass_of_methodNamed B.named, hE, hLo, B.notSynchronized⟩
  have S : S2 g s σ R L s.heap [] := ⟨hWd, va_S.rf⟩
  have hx := C.1
  have hb := C.2.1
  have hl := lv_entry ([.ref (ga g x0), .int x1]) (n := 2) (Nat.le_of_ble_eq_true rfl)
  rw [lg_entry_eq]
  generalize (lg_sl ([.ref (ga g x0), .int x1]) ++ List.replicate (2 - (lg_sl ([.ref (ga g x0), .int x1])).length) Slot.unset).toArray = ls at hl ⊢
  have hl : lv_has ls 2 [(0, .ref (ga g x0)), (1, .int x1)] := hl
  generalize hH : s.heap = H at S ⊢
  generalize hlc : ([] : List Loc) = locs at S ⊢
  rw [f_X10_need] at h
  refine lv_iload_n hx hb dX10_need_0 rfl (lv_at hl 1 rfl) ?_
  refine lv_if_ne (tgt := 13) hx hb dX10_need_1 (by decide) (fun c1 => ?_) (fun c1 => ?_)
  · have h := it_n c1 h
    exact x_vret C S hr h dX10_need_13
  · have h := it_p c1 h
    refine lv_aload_n hx hb dX10_need_4 rfl (lv_at hl 0 rfl) ?_
    refine lv_aload_n hx hb dX10_need_5 rfl (lv_at hl 0 rfl) ?_
    refine x_getI C S KX10 hx0 2 (by decide) rfl rfl fl_RX10_22 dX10_need_6 ?_
    refine lv_iconst (v := (1 : Int32)) hx hb dX10_need_9 (by decide) ?_
    obtain ⟨a2, σ2, hc2, h⟩ := bd_el h
    refine x_callVV C S KX10 hx0 (ok_X10_fail (L := L) hc2 hSh hx0) ⟨cd_X10_fail, ni_RX10, ml_RX10_35, in_X10_fail, sl_X10_fail⟩ ⟨by decide, by decide⟩ rfl (rm_ok (by decide) (by decide)) hl.1 rfl (Nat.le_of_ble_eq_true rfl) ⟨by decide, by decide⟩ dX10_need_10 (fun H locs S => ?_)
    exact x_vret C S hr h dX10_need_13
theorem dX10_tookSemicolon_0 : decode cX10_tookSemicolon 0 = .ok (.aload_n 0, 1) := by decide +kernel
theorem dX10_tookSemicolon_1 : decode cX10_tookSemicolon 1 = .ok (.invokevirtual 28, 3) := by decide +kernel
theorem dX10_tookSemicolon_4 : decode cX10_tookSemicolon 4 = .ok (.aload_n 0, 1) := by decide +kernel
theorem dX10_tookSemicolon_5 : decode cX10_tookSemicolon 5 = .ok (.getfield 22, 3) := by decide +kernel
theorem dX10_tookSemicolon_8 : decode cX10_tookSemicolon 8 = .ok (.aload_n 0, 1) := by decide +kernel
theorem dX10_tookSemicolon_9 : decode cX10_tookSemicolon 9 = .ok (.getfield 19, 3) := by decide +kernel
theorem dX10_tookSemicolon_12 : decode cX10_tookSemicolon 12 = .ok (.if_icmp .ge 29, 3) := by decide +kernel
theorem dX10_tookSemicolon_15 : decode cX10_tookSemicolon 15 = .ok (.aload_n 0, 1) := by decide +kernel
theorem dX10_tookSemicolon_16 : decode cX10_tookSemicolon 16 = .ok (.getfield 9, 3) := by decide +kernel
theorem dX10_tookSemicolon_19 : decode cX10_tookSemicolon 19 = .ok (.aload_n 0, 1) := by decide +kernel
theorem dX10_tookSemicolon_20 : decode cX10_tookSemicolon 20 = .ok (.getfield 22, 3) := by decide +kernel
theorem dX10_tookSemicolon_23 : decode cX10_tookSemicolon 23 = .ok (.baload, 1) := by decide +kernel
theorem dX10_tookSemicolon_24 : decode cX10_tookSemicolon 24 = .ok (.bipush 59, 2) := by decide +kernel
theorem dX10_tookSemicolon_26 : decode cX10_tookSemicolon 26 = .ok (.if_icmp .ne 15, 3) := by decide +kernel
theorem dX10_tookSemicolon_29 : decode cX10_tookSemicolon 29 = .ok (.aload_n 0, 1) := by decide +kernel
theorem dX10_tookSemicolon_30 : decode cX10_tookSemicolon 30 = .ok (.dup, 1) := by decide +kernel
theorem dX10_tookSemicolon_31 : decode cX10_tookSemicolon 31 = .ok (.getfield 22, 3) := by decide +kernel
theorem dX10_tookSemicolon_34 : decode cX10_tookSemicolon 34 = .ok (.iconst 1, 1) := by decide +kernel
theorem dX10_tookSemicolon_35 : decode cX10_tookSemicolon 35 = .ok (.iadd, 1) := by decide +kernel
theorem dX10_tookSemicolon_36 : decode cX10_tookSemicolon 36 = .ok (.putfield 22, 3) := by decide +kernel
theorem dX10_tookSemicolon_39 : decode cX10_tookSemicolon 39 = .ok (.iconst 1, 1) := by decide +kernel
theorem dX10_tookSemicolon_40 : decode cX10_tookSemicolon 40 = .ok (.ireturn, 1) := by decide +kernel
theorem dX10_tookSemicolon_41 : decode cX10_tookSemicolon 41 = .ok (.iconst 0, 1) := by decide +kernel
theorem dX10_tookSemicolon_42 : decode cX10_tookSemicolon 42 = .ok (.ireturn, 1) := by decide +kernel
def f_X10_tookSemicolon (N : Nat) (R : Nat → Nat → Nat) (σ : SI) (x0 : Nat) : Option (Int32 × SI) := bd (f_X10_skipSpaces N R σ x0) (fun _ σ1 => if (σ1 x0 1) ≤ (σ1 x0 2) then (some ((0 : Int32), σ1)) else (ck (σ1 x0 2) 800 (if (σ1 (R x0 0) (σ1 x0 2).toNatClampNeg) = (59 : Int32) then (sq (up σ1 x0 2 ((σ1 x0 2) + (1 : Int32))) (fun σ6 => some ((1 : Int32), σ6))) else (some ((0 : Int32), σ1)))))
set_option maxHeartbeats 4000000 in
set_option maxRecDepth 100000 in
theorem ok_X10_tookSemicolon {l : Launch} {g : GL} {R : Nat → Nat → Nat} {L : Nat → Nat → Int64} {N : Nat} {σ : SI} {x0 : Nat} {r : (Int32 × SI)} (h : f_X10_tookSemicolon N R σ x0 = some r) (hSh : ShR R) (hx0 : Ok 202 x0 10) : Ct l g 2 yX10_tookSemicolon cX10_tookSemicolon 1 (some .boolean) 202 202 0 0 [.ref (ga g x0)] (mkS σ R L) (PI R L r) := by
  refine Met.ofW (cc := cX10_tookSemicolon) (maxL := 1) (ret := (some .boolean)) (by decide) rfl ?_
  intro p e s m args below meth c s₁ B hml hv
  obtain ⟨rfl, hE, hLo, hWd⟩ := hv
  have hr : meth.sig.returnType = (some .boolean) := B.returns
  have C : Cx l g p s m meth c cX10_tookSemicolon 1 RX10 := ⟨B.exec, B.bytes, hml, findClass_of_methodNamed B.named, hE, hLo, B.notSynchronized⟩
  have S : S2 g s σ R L s.heap [] := ⟨hWd, va_S.rf⟩
  have hx := C.1
  have hb := C.2.1
  have hl := lv_entry ([.ref (ga g x0)]) (n := 1) (Nat.le_of_ble_eq_true rfl)
  rw [lg_entry_eq]
  generalize (lg_sl ([.ref (ga g x0)]) ++ List.replicate (1 - (lg_sl ([.ref (ga g x0)])).length) Slot.unset).toArray = ls at hl ⊢
  have hl : lv_has ls 1 [(0, .ref (ga g x0))] := hl
  generalize hH : s.heap = H at S ⊢
  generalize hlc : ([] : List Loc) = locs at S ⊢
  rw [f_X10_tookSemicolon] at h
  refine lv_aload_n hx hb dX10_tookSemicolon_0 rfl (lv_at hl 0 rfl) ?_
  obtain ⟨a1, σ1, hc1, h⟩ := bd_el h
  refine x_callVV C S KX10 hx0 (ok_X10_skipSpaces (L := L) hc1 hSh hx0) ⟨cd_X10_skipSpaces, ni_RX10, ml_RX10_28, in_X10_skipSpaces, sl_X10_skipSpaces⟩ ⟨by decide, by decide⟩ rfl (rm_ok (by decide) (by decide)) hl.1 rfl (Nat.le_of_ble_eq_true rfl) ⟨by decide, by decide⟩ dX10_tookSemicolon_1 (fun H locs S => ?_)
  refine lv_aload_n hx hb dX10_tookSemicolon_4 rfl (lv_at hl 0 rfl) ?_
  refine x_getI C S KX10 hx0 2 (by decide) rfl rfl fl_RX10_22 dX10_tookSemicolon_5 ?_
  refine lv_aload_n hx hb dX10_tookSemicolon_8 rfl (lv_at hl 0 rfl) ?_
  refine x_getI C S KX10 hx0 1 (by decide) rfl rfl fl_RX10_19 dX10_tookSemicolon_9 ?_
  refine lv_icmp_ge (tgt := 41) hx hb dX10_tookSemicolon_12 (by decide) (fun c2 => ?_) (fun c2 => ?_)
  · have h := it_p c2 h
    refine lv_iconst (v := (0 : Int32)) hx hb dX10_tookSemicolon_41 (by decide) ?_
    exact x_zret C S hr (by decide) h dX10_tookSemicolon_42
  · have h := it_n c2 h
    refine lv_aload_n hx hb dX10_tookSemicolon_15 rfl (lv_at hl 0 rfl) ?_
    have hR3 : Ok 202 (R x0 0) 20800 := hSh x0 10 0 20800 hx0.1 rfl
    refine x_getR C S KX10 hx0 0 (by decide) rfl rfl fl_RX10_9 hR3 dX10_tookSemicolon_16 ?_
    refine lv_aload_n hx hb dX10_tookSemicolon_19 rfl (lv_at hl 0 rfl) ?_
    refine x_getI C S KX10 hx0 2 (by decide) rfl rfl fl_RX10_22 dX10_tookSemicolon_20 ?_
    obtain ⟨hi4, h⟩ := ck_el h
    refine x_bald (len := 800) C S (by decide) hR3 hi4 dX10_tookSemicolon_23 ?_
    refine lv_bipush (v := (59 : Int32)) hx hb dX10_tookSemicolon_24 (by decide) ?_
    refine lv_icmp_ne (tgt := 41) hx hb dX10_tookSemicolon_26 (by decide) (fun c5 => ?_) (fun c5 => ?_)
    · have h := it_n c5 h
      refine lv_iconst (v := (0 : Int32)) hx hb dX10_tookSemicolon_41 (by decide) ?_
      exact x_zret C S hr (by decide) h dX10_tookSemicolon_42
    · have h := it_p c5 h
      refine lv_aload_n hx hb dX10_tookSemicolon_29 rfl (lv_at hl 0 rfl) ?_
      refine lv_dup hx hb dX10_tookSemicolon_30 rfl ?_
      refine x_getI C S KX10 hx0 2 (by decide) rfl rfl fl_RX10_22 dX10_tookSemicolon_31 ?_
      refine lv_iconst (v := (1 : Int32)) hx hb dX10_tookSemicolon_34 (by decide) ?_
      refine lv_iadd hx hb dX10_tookSemicolon_35 ?_
      obtain ⟨σ6, hs6, h⟩ := sq_el h
      refine x_putI C S KX10 hx0 2 (by decide) rfl rfl rfl ⟨rfl, rfl⟩ fl_RX10_22 dX10_tookSemicolon_36 hs6 (fun H locs S => ?_)
      refine lv_iconst (v := (1 : Int32)) hx hb dX10_tookSemicolon_39 (by decide) ?_
      exact x_zret C S hr (by decide) h dX10_tookSemicolon_40
theorem dX10_tookWord_0 : decode cX10_tookWord 0 = .ok (.aload_n 0, 1) := by decide +kernel
theorem dX10_tookWord_1 : decode cX10_tookWord 1 = .ok (.invokevirtual 28, 3) := by decide +kernel
theorem dX10_tookWord_4 : decode cX10_tookWord 4 = .ok (.aload_n 0, 1) := by decide +kernel
theorem dX10_tookWord_5 : decode cX10_tookWord 5 = .ok (.bipush 97, 2) := by decide +kernel
theorem dX10_tookWord_7 : decode cX10_tookWord 7 = .ok (.bipush 122, 2) := by decide +kernel
theorem dX10_tookWord_9 : decode cX10_tookWord 9 = .ok (.invokevirtual 31, 3) := by decide +kernel
theorem dX10_tookWord_12 : decode cX10_tookWord 12 = .ok (.istore_n 2, 1) := by decide +kernel
theorem dX10_tookWord_13 : decode cX10_tookWord 13 = .ok (.iload_n 2, 1) := by decide +kernel
theorem dX10_tookWord_14 : decode cX10_tookWord 14 = .ok (.aload_n 0, 1) := by decide +kernel
theorem dX10_tookWord_15 : decode cX10_tookWord 15 = .ok (.getfield 22, 3) := by decide +kernel
theorem dX10_tookWord_18 : decode cX10_tookWord 18 = .ok (.isub, 1) := by decide +kernel
theorem dX10_tookWord_19 : decode cX10_tookWord 19 = .ok (.aload_n 1, 1) := by decide +kernel
theorem dX10_tookWord_20 : decode cX10_tookWord 20 = .ok (.invokevirtual 39, 3) := by decide +kernel
theorem dX10_tookWord_23 : decode cX10_tookWord 23 = .ok (.if_icmp .eq 5, 3) := by decide +kernel
theorem dX10_tookWord_26 : decode cX10_tookWord 26 = .ok (.iconst 0, 1) := by decide +kernel
theorem dX10_tookWord_27 : decode cX10_tookWord 27 = .ok (.ireturn, 1) := by decide +kernel
theorem dX10_tookWord_28 : decode cX10_tookWord 28 = .ok (.iconst 0, 1) := by decide +kernel
theorem dX10_tookWord_29 : decode cX10_tookWord 29 = .ok (.istore_n 3, 1) := by decide +kernel
theorem dX10_tookWord_30 : decode cX10_tookWord 30 = .ok (.iload_n 3, 1) := by decide +kernel
theorem dX10_tookWord_31 : decode cX10_tookWord 31 = .ok (.aload_n 1, 1) := by decide +kernel
theorem dX10_tookWord_32 : decode cX10_tookWord 32 = .ok (.invokevirtual 39, 3) := by decide +kernel
theorem dX10_tookWord_35 : decode cX10_tookWord 35 = .ok (.if_icmp .ge 30, 3) := by decide +kernel
theorem dX10_tookWord_38 : decode cX10_tookWord 38 = .ok (.aload_n 0, 1) := by decide +kernel
theorem dX10_tookWord_39 : decode cX10_tookWord 39 = .ok (.getfield 9, 3) := by decide +kernel
theorem dX10_tookWord_42 : decode cX10_tookWord 42 = .ok (.aload_n 0, 1) := by decide +kernel
theorem dX10_tookWord_43 : decode cX10_tookWord 43 = .ok (.getfield 22, 3) := by decide +kernel
theorem dX10_tookWord_46 : decode cX10_tookWord 46 = .ok (.iload_n 3, 1) := by decide +kernel
theorem dX10_tookWord_47 : decode cX10_tookWord 47 = .ok (.iadd, 1) := by decide +kernel
theorem dX10_tookWord_48 : decode cX10_tookWord 48 = .ok (.baload, 1) := by decide +kernel
theorem dX10_tookWord_49 : decode cX10_tookWord 49 = .ok (.aload_n 1, 1) := by decide +kernel
theorem dX10_tookWord_50 : decode cX10_tookWord 50 = .ok (.iload_n 3, 1) := by decide +kernel
theorem dX10_tookWord_51 : decode cX10_tookWord 51 = .ok (.invokevirtual 44, 3) := by decide +kernel
theorem dX10_tookWord_54 : decode cX10_tookWord 54 = .ok (.if_icmp .eq 5, 3) := by decide +kernel
theorem dX10_tookWord_57 : decode cX10_tookWord 57 = .ok (.iconst 0, 1) := by decide +kernel
theorem dX10_tookWord_58 : decode cX10_tookWord 58 = .ok (.ireturn, 1) := by decide +kernel
theorem dX10_tookWord_59 : decode cX10_tookWord 59 = .ok (.iinc 3 1, 3) := by decide +kernel
theorem dX10_tookWord_62 : decode cX10_tookWord 62 = .ok (.goto (-32), 3) := by decide +kernel
theorem dX10_tookWord_65 : decode cX10_tookWord 65 = .ok (.aload_n 0, 1) := by decide +kernel
theorem dX10_tookWord_66 : decode cX10_tookWord 66 = .ok (.iload_n 2, 1) := by decide +kernel
theorem dX10_tookWord_67 : decode cX10_tookWord 67 = .ok (.putfield 22, 3) := by decide +kernel
theorem dX10_tookWord_70 : decode cX10_tookWord 70 = .ok (.iconst 1, 1) := by decide +kernel
theorem dX10_tookWord_71 : decode cX10_tookWord 71 = .ok (.ireturn, 1) := by decide +kernel
def f_X10_tookWord_30 (N : Nat) (R : Nat → Nat → Nat) : Nat → SI → Nat → Nat → Int32 → Int32 → Option (Int32 × SI)
  | 0, _, _, _, _, _ => none
  | n + 1, σ, x0, x1, x2, x3 => if (lnS x1) ≤ x3 then (sq (up σ x0 2 x2) (fun σ5 => some ((1 : Int32), σ5))) else (ck ((σ x0 2) + x3) 800 (ck x3 (strLen.getD x1 0) (if (σ (R x0 0) ((σ x0 2) + x3).toNatClampNeg) = (chS x1 x3) then (f_X10_tookWord_30 N R n σ x0 x1 x2 (x3 + 1)) else (some ((0 : Int32), σ)))))
def f_X10_tookWord (N : Nat) (R : Nat → Nat → Nat) (σ : SI) (x0 : Nat) (x1 : Nat) : Option (Int32 × SI) := bd (f_X10_skipSpaces N R σ x0) (fun _ σ1 => bd (f_X10_endOfRun N R σ1 x0 (97 : Int32) (122 : Int32)) (fun a2 σ2 => if (a2 - (σ2 x0 2)) = (lnS x1) then (f_X10_tookWord_30 N R N σ2 x0 x1 a2 (0 : Int32)) else (some ((0 : Int32), σ2))))
set_option maxHeartbeats 4000000 in
set_option maxRecDepth 100000 in
theorem w_X10_tookWord_30 {l : Launch} {g : GL} {p : Program} {e : Jvm.Env} {s : State} {m : MethodId} {args : Array Value} {below : List Frame} {meth : Method} {c : Code} {R : Nat → Nat → Nat} {L : Nat → Nat → Int64} {r : (Int32 × SI)} {N : Nat} (C : Cx l g p s m meth c cX10_tookWord 4 RX10) (hr : meth.sig.returnType = (some .boolean)) (hSh : ShR R) : ∀ (n : Nat) (σ : SI) (x0 : Nat) (x1 : Nat) (x2 : Int32) (x3 : Int32), f_X10_tookWord_30 N R n σ x0 x1 x2 x3 = some r → Ok 202 x0 10 → x1 < 22 → ∀ (H : Heap) (locs : List Loc) (ls : Array Slot), S2 g s σ R L H locs → lv_has ls 4 [(0, .ref (ga g x0)), (1, .ref (gS g x1)), (2, .int x2), (3, .int x3)] → W p l e (rmd 5 0 0) s m args below meth c H locs 0 0 (MQ below (Qg g 202 (PI R L r)) args s 0 0 (gA g)) (F0 m 30 ls []) := by
  have hx := C.1
  have hb := C.2.1
  intro n
  induction n with
  | zero =>
    intro σ x0 x1 x2 x3 h
    cases (show (none : Option (Int32 × SI)) = some r from h)
  | succ n ih =>
    intro σ x0 x1 x2 x3 h hx0 hx1 H locs ls S hl
    rw [f_X10_tookWord_30] at h
    refine lv_iload_n hx hb dX10_tookWord_30 rfl (lv_at hl 3 rfl) ?_
    refine lv_aload_n hx hb dX10_tookWord_31 rfl (lv_at hl 1 rfl) ?_
    refine x_callJ C S hx1 (ok_length (L := L) hx1) ⟨jc_length, jn_RJ0, ml_RX10_39, ji_length, js_length⟩ ⟨by decide, by decide⟩ rfl (rm_ok (by decide) (by decide)) hl.1 rfl (Nat.le_of_ble_eq_true rfl) ⟨by decide, by decide⟩ dX10_tookWord_32 (fun H locs S => ?_)
    refine lv_icmp_ge (tgt := 65) hx hb dX10_tookWord_35 (by decide) (fun c4 => ?_) (fun c4 => ?_)
    · have h := it_p c4 h
      refine lv_aload_n hx hb dX10_tookWord_65 rfl (lv_at hl 0 rfl) ?_
      refine lv_iload_n hx hb dX10_tookWord_66 rfl (lv_at hl 2 rfl) ?_
      obtain ⟨σ5, hs5, h⟩ := sq_el h
      refine x_putI C S KX10 hx0 2 (by decide) rfl rfl rfl ⟨rfl, rfl⟩ fl_RX10_22 dX10_tookWord_67 hs5 (fun H locs S => ?_)
      refine lv_iconst (v := (1 : Int32)) hx hb dX10_tookWord_70 (by decide) ?_
      exact x_zret C S hr (by decide) h dX10_tookWord_71
    · have h := it_n c4 h
      refine lv_aload_n hx hb dX10_tookWord_38 rfl (lv_at hl 0 rfl) ?_
      have hR6 : Ok 202 (R x0 0) 20800 := hSh x0 10 0 20800 hx0.1 rfl
      refine x_getR C S KX10 hx0 0 (by decide) rfl rfl fl_RX10_9 hR6 dX10_tookWord_39 ?_
      refine lv_aload_n hx hb dX10_tookWord_42 rfl (lv_at hl 0 rfl) ?_
      refine x_getI C S KX10 hx0 2 (by decide) rfl rfl fl_RX10_22 dX10_tookWord_43 ?_
      refine lv_iload_n hx hb dX10_tookWord_46 rfl (lv_at hl 3 rfl) ?_
      refine lv_iadd hx hb dX10_tookWord_47 ?_
      obtain ⟨hi7, h⟩ := ck_el h
      refine x_bald (len := 800) C S (by decide) hR6 hi7 dX10_tookWord_48 ?_
      refine lv_aload_n hx hb dX10_tookWord_49 rfl (lv_at hl 1 rfl) ?_
      refine lv_iload_n hx hb dX10_tookWord_50 rfl (lv_at hl 3 rfl) ?_
      obtain ⟨hi8, h⟩ := ck_el h
      refine x_callJ C S hx1 (ok_charAt (L := L) hx1 hi8) ⟨jc_charAt, jn_RJ0, ml_RX10_44, ji_charAt, js_charAt⟩ ⟨by decide, by decide⟩ rfl (rm_ok (by decide) (by decide)) hl.1 rfl (Nat.le_of_ble_eq_true rfl) ⟨by decide, by decide⟩ dX10_tookWord_51 (fun H locs S => ?_)
      refine lv_icmp_eq (tgt := 59) hx hb dX10_tookWord_54 (by decide) (fun c9 => ?_) (fun c9 => ?_)
      · have h := it_p c9 h
        refine lv_iinc (v := x3 + 1) (lv' := [(3, .int (x3 + 1)), (0, .ref (ga g x0)), (1, .ref (gS g x1)), (2, .int x2)]) hx hb dX10_tookWord_59 hl (k := 3) rfl rfl (by decide) rfl (fun ls hl => ?_)
        refine lv_goto (tgt := 30) hx hb dX10_tookWord_62 (by decide) ?_
        exact ih σ x0 x1 x2 (x3 + 1) h hx0 hx1 H locs ls S (lv_sub hl [1, 2, 3, 0] rfl)
      · have h := it_n c9 h
        refine lv_iconst (v := (0 : Int32)) hx hb dX10_tookWord_57 (by decide) ?_
        exact x_zret C S hr (by decide) h dX10_tookWord_58
set_option maxHeartbeats 4000000 in
set_option maxRecDepth 100000 in
theorem ok_X10_tookWord {l : Launch} {g : GL} {R : Nat → Nat → Nat} {L : Nat → Nat → Int64} {N : Nat} {σ : SI} {x0 : Nat} {x1 : Nat} {r : (Int32 × SI)} (h : f_X10_tookWord N R σ x0 x1 = some r) (hSh : ShR R) (hx0 : Ok 202 x0 10) (hx1 : x1 < 22) : Ct l g 5 yX10_tookWord cX10_tookWord 4 (some .boolean) 202 202 0 0 [.ref (ga g x0), .ref (gS g x1)] (mkS σ R L) (PI R L r) := by
  refine Met.ofW (cc := cX10_tookWord) (maxL := 4) (ret := (some .boolean)) (by decide) rfl ?_
  intro p e s m args below meth c s₁ B hml hv
  obtain ⟨rfl, hE, hLo, hWd⟩ := hv
  have hr : meth.sig.returnType = (some .boolean) := B.returns
  have C : Cx l g p s m meth c cX10_tookWord 4 RX10 := ⟨B.exec, B.bytes, hml, findClass_of_methodNamed B.named, hE, hLo, B.notSynchronized⟩
  have S : S2 g s σ R L s.heap [] := ⟨hWd, va_S.rf⟩
  have hx := C.1
  have hb := C.2.1
  have hl := lv_entry ([.ref (ga g x0), .ref (gS g x1)]) (n := 4) (Nat.le_of_ble_eq_true rfl)
  rw [lg_entry_eq]
  generalize (lg_sl ([.ref (ga g x0), .ref (gS g x1)]) ++ List.replicate (4 - (lg_sl ([.ref (ga g x0), .ref (gS g x1)])).length) Slot.unset).toArray = ls at hl ⊢
  have hl : lv_has ls 4 [(0, .ref (ga g x0)), (1, .ref (gS g x1))] := hl
  generalize hH : s.heap = H at S ⊢
  generalize hlc : ([] : List Loc) = locs at S ⊢
  rw [f_X10_tookWord] at h
  refine lv_aload_n hx hb dX10_tookWord_0 rfl (lv_at hl 0 rfl) ?_
  obtain ⟨a1, σ1, hc1, h⟩ := bd_el h
  refine x_callVV C S KX10 hx0 (ok_X10_skipSpaces (L := L) hc1 hSh hx0) ⟨cd_X10_skipSpaces, ni_RX10, ml_RX10_28, in_X10_skipSpaces, sl_X10_skipSpaces⟩ ⟨by decide, by decide⟩ rfl (rm_ok (by decide) (by decide)) hl.1 rfl (Nat.le_of_ble_eq_true rfl) ⟨by decide, by decide⟩ dX10_tookWord_1 (fun H locs S => ?_)
  refine lv_aload_n hx hb dX10_tookWord_4 rfl (lv_at hl 0 rfl) ?_
  refine lv_bipush (v := (97 : Int32)) hx hb dX10_tookWord_5 (by decide) ?_
  refine lv_bipush (v := (122 : Int32)) hx hb dX10_tookWord_7 (by decide) ?_
  obtain ⟨a2, σ2, hc2, h⟩ := bd_el h
  refine x_callVI C S KX10 hx0 (ok_X10_endOfRun (L := L) hc2 hSh hx0) ⟨cd_X10_endOfRun, ni_RX10, ml_RX10_31, in_X10_endOfRun, sl_X10_endOfRun⟩ ⟨by decide, by decide⟩ rfl (rm_ok (by decide) (by decide)) hl.1 rfl (Nat.le_of_ble_eq_true rfl) ⟨by decide, by decide⟩ dX10_tookWord_9 (fun H locs S => ?_)
  refine lv_istore_n (lv' := [(2, .int a2), (0, .ref (ga g x0)), (1, .ref (gS g x1))]) hx hb dX10_tookWord_12 rfl hl (by decide) rfl (fun ls hl => ?_)
  refine lv_iload_n hx hb dX10_tookWord_13 rfl (lv_at hl 0 rfl) ?_
  refine lv_aload_n hx hb dX10_tookWord_14 rfl (lv_at hl 1 rfl) ?_
  refine x_getI C S KX10 hx0 2 (by decide) rfl rfl fl_RX10_22 dX10_tookWord_15 ?_
  refine lv_isub hx hb dX10_tookWord_18 ?_
  refine lv_aload_n hx hb dX10_tookWord_19 rfl (lv_at hl 2 rfl) ?_
  refine x_callJ C S hx1 (ok_length (L := L) hx1) ⟨jc_length, jn_RJ0, ml_RX10_39, ji_length, js_length⟩ ⟨by decide, by decide⟩ rfl (rm_ok (by decide) (by decide)) hl.1 rfl (Nat.le_of_ble_eq_true rfl) ⟨by decide, by decide⟩ dX10_tookWord_20 (fun H locs S => ?_)
  refine lv_icmp_eq (tgt := 28) hx hb dX10_tookWord_23 (by decide) (fun c3 => ?_) (fun c3 => ?_)
  · have h := it_p c3 h
    refine lv_iconst (v := (0 : Int32)) hx hb dX10_tookWord_28 (by decide) ?_
    refine lv_istore_n (lv' := [(3, .int (0 : Int32)), (2, .int a2), (0, .ref (ga g x0)), (1, .ref (gS g x1))]) hx hb dX10_tookWord_29 rfl hl (by decide) rfl (fun ls hl => ?_)
    exact w_X10_tookWord_30 C hr hSh N σ2 x0 x1 a2 (0 : Int32) h hx0 hx1 H locs ls S (lv_sub hl [2, 3, 1, 0] rfl)
  · have h := it_n c3 h
    refine lv_iconst (v := (0 : Int32)) hx hb dX10_tookWord_26 (by decide) ?_
    exact x_zret C S hr (by decide) h dX10_tookWord_27
theorem dX10_nameUpTo_0 : decode cX10_nameUpTo 0 = .ok (.iconst 0, 1) := by decide +kernel
theorem dX10_nameUpTo_1 : decode cX10_nameUpTo 1 = .ok (.istore_n 2, 1) := by decide +kernel
theorem dX10_nameUpTo_2 : decode cX10_nameUpTo 2 = .ok (.aload_n 0, 1) := by decide +kernel
theorem dX10_nameUpTo_3 : decode cX10_nameUpTo 3 = .ok (.getfield 22, 3) := by decide +kernel
theorem dX10_nameUpTo_6 : decode cX10_nameUpTo 6 = .ok (.istore_n 3, 1) := by decide +kernel
theorem dX10_nameUpTo_7 : decode cX10_nameUpTo 7 = .ok (.iload_n 3, 1) := by decide +kernel
theorem dX10_nameUpTo_8 : decode cX10_nameUpTo 8 = .ok (.iload_n 1, 1) := by decide +kernel
theorem dX10_nameUpTo_9 : decode cX10_nameUpTo 9 = .ok (.if_icmp .ge 26, 3) := by decide +kernel
theorem dX10_nameUpTo_12 : decode cX10_nameUpTo 12 = .ok (.iload_n 2, 1) := by decide +kernel
theorem dX10_nameUpTo_13 : decode cX10_nameUpTo 13 = .ok (.bipush 32, 2) := by decide +kernel
theorem dX10_nameUpTo_15 : decode cX10_nameUpTo 15 = .ok (.imul, 1) := by decide +kernel
theorem dX10_nameUpTo_16 : decode cX10_nameUpTo 16 = .ok (.aload_n 0, 1) := by decide +kernel
theorem dX10_nameUpTo_17 : decode cX10_nameUpTo 17 = .ok (.getfield 9, 3) := by decide +kernel
theorem dX10_nameUpTo_20 : decode cX10_nameUpTo 20 = .ok (.iload_n 3, 1) := by decide +kernel
theorem dX10_nameUpTo_21 : decode cX10_nameUpTo 21 = .ok (.baload, 1) := by decide +kernel
theorem dX10_nameUpTo_22 : decode cX10_nameUpTo 22 = .ok (.iadd, 1) := by decide +kernel
theorem dX10_nameUpTo_23 : decode cX10_nameUpTo 23 = .ok (.bipush 97, 2) := by decide +kernel
theorem dX10_nameUpTo_25 : decode cX10_nameUpTo 25 = .ok (.isub, 1) := by decide +kernel
theorem dX10_nameUpTo_26 : decode cX10_nameUpTo 26 = .ok (.iconst 1, 1) := by decide +kernel
theorem dX10_nameUpTo_27 : decode cX10_nameUpTo 27 = .ok (.iadd, 1) := by decide +kernel
theorem dX10_nameUpTo_28 : decode cX10_nameUpTo 28 = .ok (.istore_n 2, 1) := by decide +kernel
theorem dX10_nameUpTo_29 : decode cX10_nameUpTo 29 = .ok (.iinc 3 1, 3) := by decide +kernel
theorem dX10_nameUpTo_32 : decode cX10_nameUpTo 32 = .ok (.goto (-25), 3) := by decide +kernel
theorem dX10_nameUpTo_35 : decode cX10_nameUpTo 35 = .ok (.iload_n 2, 1) := by decide +kernel
theorem dX10_nameUpTo_36 : decode cX10_nameUpTo 36 = .ok (.ireturn, 1) := by decide +kernel
def f_X10_nameUpTo_7 (N : Nat) (R : Nat → Nat → Nat) : Nat → SI → Nat → Int32 → Int32 → Int32 → Option (Int32 × SI)
  | 0, _, _, _, _, _ => none
  | n + 1, σ, x0, x1, x2, x3 => if x1 ≤ x3 then (some (x2, σ)) else (ck x3 800 (f_X10_nameUpTo_7 N R n σ x0 x1 ((((x2 * (32 : Int32)) + (σ (R x0 0) x3.toNatClampNeg)) - (97 : Int32)) + (1 : Int32)) (x3 + 1)))
def f_X10_nameUpTo (N : Nat) (R : Nat → Nat → Nat) (σ : SI) (x0 : Nat) (x1 : Int32) : Option (Int32 × SI) := f_X10_nameUpTo_7 N R N σ x0 x1 (0 : Int32) (σ x0 2)
set_option maxHeartbeats 4000000 in
set_option maxRecDepth 100000 in
theorem w_X10_nameUpTo_7 {l : Launch} {g : GL} {p : Program} {e : Jvm.Env} {s : State} {m : MethodId} {args : Array Value} {below : List Frame} {meth : Method} {c : Code} {R : Nat → Nat → Nat} {L : Nat → Nat → Int64} {r : (Int32 × SI)} {N : Nat} (C : Cx l g p s m meth c cX10_nameUpTo 4 RX10) (hr : meth.sig.returnType = (some .int)) (hSh : ShR R) : ∀ (n : Nat) (σ : SI) (x0 : Nat) (x1 : Int32) (x2 : Int32) (x3 : Int32), f_X10_nameUpTo_7 N R n σ x0 x1 x2 x3 = some r → Ok 202 x0 10 → ∀ (H : Heap) (locs : List Loc) (ls : Array Slot), S2 g s σ R L H locs → lv_has ls 4 [(0, .ref (ga g x0)), (1, .int x1), (2, .int x2), (3, .int x3)] → W p l e (rmd 1 0 0) s m args below meth c H locs 0 0 (MQ below (Qg g 202 (PI R L r)) args s 0 0 (gA g)) (F0 m 7 ls []) := by
  have hx := C.1
  have hb := C.2.1
  intro n
  induction n with
  | zero =>
    intro σ x0 x1 x2 x3 h
    cases (show (none : Option (Int32 × SI)) = some r from h)
  | succ n ih =>
    intro σ x0 x1 x2 x3 h hx0 H locs ls S hl
    rw [f_X10_nameUpTo_7] at h
    refine lv_iload_n hx hb dX10_nameUpTo_7 rfl (lv_at hl 3 rfl) ?_
    refine lv_iload_n hx hb dX10_nameUpTo_8 rfl (lv_at hl 1 rfl) ?_
    refine lv_icmp_ge (tgt := 35) hx hb dX10_nameUpTo_9 (by decide) (fun c1 => ?_) (fun c1 => ?_)
    · have h := it_p c1 h
      refine lv_iload_n hx hb dX10_nameUpTo_35 rfl (lv_at hl 2 rfl) ?_
      exact x_iret C S hr h dX10_nameUpTo_36
    · have h := it_n c1 h
      refine lv_iload_n hx hb dX10_nameUpTo_12 rfl (lv_at hl 2 rfl) ?_
      refine lv_bipush (v := (32 : Int32)) hx hb dX10_nameUpTo_13 (by decide) ?_
      refine lv_imul hx hb dX10_nameUpTo_15 ?_
      refine lv_aload_n hx hb dX10_nameUpTo_16 rfl (lv_at hl 0 rfl) ?_
      have hR2 : Ok 202 (R x0 0) 20800 := hSh x0 10 0 20800 hx0.1 rfl
      refine x_getR C S KX10 hx0 0 (by decide) rfl rfl fl_RX10_9 hR2 dX10_nameUpTo_17 ?_
      refine lv_iload_n hx hb dX10_nameUpTo_20 rfl (lv_at hl 3 rfl) ?_
      obtain ⟨hi3, h⟩ := ck_el h
      refine x_bald (len := 800) C S (by decide) hR2 hi3 dX10_nameUpTo_21 ?_
      refine lv_iadd hx hb dX10_nameUpTo_22 ?_
      refine lv_bipush (v := (97 : Int32)) hx hb dX10_nameUpTo_23 (by decide) ?_
      refine lv_isub hx hb dX10_nameUpTo_25 ?_
      refine lv_iconst (v := (1 : Int32)) hx hb dX10_nameUpTo_26 (by decide) ?_
      refine lv_iadd hx hb dX10_nameUpTo_27 ?_
      refine lv_istore_n (lv' := [(2, .int ((((x2 * (32 : Int32)) + (σ (R x0 0) x3.toNatClampNeg)) - (97 : Int32)) + (1 : Int32))), (0, .ref (ga g x0)), (1, .int x1), (3, .int x3)]) hx hb dX10_nameUpTo_28 rfl hl (by decide) rfl (fun ls hl => ?_)
      refine lv_iinc (v := x3 + 1) (lv' := [(3, .int (x3 + 1)), (2, .int ((((x2 * (32 : Int32)) + (σ (R x0 0) x3.toNatClampNeg)) - (97 : Int32)) + (1 : Int32))), (0, .ref (ga g x0)), (1, .int x1)]) hx hb dX10_nameUpTo_29 hl (k := 3) rfl rfl (by decide) rfl (fun ls hl => ?_)
      refine lv_goto (tgt := 7) hx hb dX10_nameUpTo_32 (by decide) ?_
      exact ih σ x0 x1 ((((x2 * (32 : Int32)) + (σ (R x0 0) x3.toNatClampNeg)) - (97 : Int32)) + (1 : Int32)) (x3 + 1) h hx0 H locs ls S (lv_sub hl [2, 3, 1, 0] rfl)
set_option maxHeartbeats 4000000 in
set_option maxRecDepth 100000 in
theorem ok_X10_nameUpTo {l : Launch} {g : GL} {R : Nat → Nat → Nat} {L : Nat → Nat → Int64} {N : Nat} {σ : SI} {x0 : Nat} {x1 : Int32} {r : (Int32 × SI)} (h : f_X10_nameUpTo N R σ x0 x1 = some r) (hSh : ShR R) (hx0 : Ok 202 x0 10) : Ct l g 1 yX10_nameUpTo cX10_nameUpTo 4 (some .int) 202 202 0 0 [.ref (ga g x0), .int x1] (mkS σ R L) (PI R L r) := by
  refine Met.ofW (cc := cX10_nameUpTo) (maxL := 4) (ret := (some .int)) (by decide) rfl ?_
  intro p e s m args below meth c s₁ B hml hv
  obtain ⟨rfl, hE, hLo, hWd⟩ := hv
  have hr : meth.sig.returnType = (some .int) := B.returns
  have C : Cx l g p s m meth c cX10_nameUpTo 4 RX10 := ⟨B.exec, B.bytes, hml, findClass_of_methodNamed B.named, hE, hLo, B.notSynchronized⟩
  have S : S2 g s σ R L s.heap [] := ⟨hWd, va_S.rf⟩
  have hx := C.1
  have hb := C.2.1
  have hl := lv_entry ([.ref (ga g x0), .int x1]) (n := 4) (Nat.le_of_ble_eq_true rfl)
  rw [lg_entry_eq]
  generalize (lg_sl ([.ref (ga g x0), .int x1]) ++ List.replicate (4 - (lg_sl ([.ref (ga g x0), .int x1])).length) Slot.unset).toArray = ls at hl ⊢
  have hl : lv_has ls 4 [(0, .ref (ga g x0)), (1, .int x1)] := hl
  generalize hH : s.heap = H at S ⊢
  generalize hlc : ([] : List Loc) = locs at S ⊢
  rw [f_X10_nameUpTo] at h
  refine lv_iconst (v := (0 : Int32)) hx hb dX10_nameUpTo_0 (by decide) ?_
  refine lv_istore_n (lv' := [(2, .int (0 : Int32)), (0, .ref (ga g x0)), (1, .int x1)]) hx hb dX10_nameUpTo_1 rfl hl (by decide) rfl (fun ls hl => ?_)
  refine lv_aload_n hx hb dX10_nameUpTo_2 rfl (lv_at hl 1 rfl) ?_
  refine x_getI C S KX10 hx0 2 (by decide) rfl rfl fl_RX10_22 dX10_nameUpTo_3 ?_
  refine lv_istore_n (lv' := [(3, .int (σ x0 2)), (2, .int (0 : Int32)), (0, .ref (ga g x0)), (1, .int x1)]) hx hb dX10_nameUpTo_6 rfl hl (by decide) rfl (fun ls hl => ?_)
  exact w_X10_nameUpTo_7 C hr hSh N σ x0 x1 (0 : Int32) (σ x0 2) h hx0 H locs ls S (lv_sub hl [2, 3, 1, 0] rfl)
theorem dX10_valueUpTo_0 : decode cX10_valueUpTo 0 = .ok (.iconst 0, 1) := by decide +kernel
theorem dX10_valueUpTo_1 : decode cX10_valueUpTo 1 = .ok (.istore_n 2, 1) := by decide +kernel
theorem dX10_valueUpTo_2 : decode cX10_valueUpTo 2 = .ok (.aload_n 0, 1) := by decide +kernel
theorem dX10_valueUpTo_3 : decode cX10_valueUpTo 3 = .ok (.getfield 22, 3) := by decide +kernel
theorem dX10_valueUpTo_6 : decode cX10_valueUpTo 6 = .ok (.istore_n 3, 1) := by decide +kernel
theorem dX10_valueUpTo_7 : decode cX10_valueUpTo 7 = .ok (.iload_n 3, 1) := by decide +kernel
theorem dX10_valueUpTo_8 : decode cX10_valueUpTo 8 = .ok (.iload_n 1, 1) := by decide +kernel
theorem dX10_valueUpTo_9 : decode cX10_valueUpTo 9 = .ok (.if_icmp .ge 24, 3) := by decide +kernel
theorem dX10_valueUpTo_12 : decode cX10_valueUpTo 12 = .ok (.iload_n 2, 1) := by decide +kernel
theorem dX10_valueUpTo_13 : decode cX10_valueUpTo 13 = .ok (.bipush 10, 2) := by decide +kernel
theorem dX10_valueUpTo_15 : decode cX10_valueUpTo 15 = .ok (.imul, 1) := by decide +kernel
theorem dX10_valueUpTo_16 : decode cX10_valueUpTo 16 = .ok (.aload_n 0, 1) := by decide +kernel
theorem dX10_valueUpTo_17 : decode cX10_valueUpTo 17 = .ok (.getfield 9, 3) := by decide +kernel
theorem dX10_valueUpTo_20 : decode cX10_valueUpTo 20 = .ok (.iload_n 3, 1) := by decide +kernel
theorem dX10_valueUpTo_21 : decode cX10_valueUpTo 21 = .ok (.baload, 1) := by decide +kernel
theorem dX10_valueUpTo_22 : decode cX10_valueUpTo 22 = .ok (.iadd, 1) := by decide +kernel
theorem dX10_valueUpTo_23 : decode cX10_valueUpTo 23 = .ok (.bipush 48, 2) := by decide +kernel
theorem dX10_valueUpTo_25 : decode cX10_valueUpTo 25 = .ok (.isub, 1) := by decide +kernel
theorem dX10_valueUpTo_26 : decode cX10_valueUpTo 26 = .ok (.istore_n 2, 1) := by decide +kernel
theorem dX10_valueUpTo_27 : decode cX10_valueUpTo 27 = .ok (.iinc 3 1, 3) := by decide +kernel
theorem dX10_valueUpTo_30 : decode cX10_valueUpTo 30 = .ok (.goto (-23), 3) := by decide +kernel
theorem dX10_valueUpTo_33 : decode cX10_valueUpTo 33 = .ok (.iload_n 2, 1) := by decide +kernel
theorem dX10_valueUpTo_34 : decode cX10_valueUpTo 34 = .ok (.ireturn, 1) := by decide +kernel
def f_X10_valueUpTo_7 (N : Nat) (R : Nat → Nat → Nat) : Nat → SI → Nat → Int32 → Int32 → Int32 → Option (Int32 × SI)
  | 0, _, _, _, _, _ => none
  | n + 1, σ, x0, x1, x2, x3 => if x1 ≤ x3 then (some (x2, σ)) else (ck x3 800 (f_X10_valueUpTo_7 N R n σ x0 x1 (((x2 * (10 : Int32)) + (σ (R x0 0) x3.toNatClampNeg)) - (48 : Int32)) (x3 + 1)))
def f_X10_valueUpTo (N : Nat) (R : Nat → Nat → Nat) (σ : SI) (x0 : Nat) (x1 : Int32) : Option (Int32 × SI) := f_X10_valueUpTo_7 N R N σ x0 x1 (0 : Int32) (σ x0 2)
set_option maxHeartbeats 4000000 in
set_option maxRecDepth 100000 in
theorem w_X10_valueUpTo_7 {l : Launch} {g : GL} {p : Program} {e : Jvm.Env} {s : State} {m : MethodId} {args : Array Value} {below : List Frame} {meth : Method} {c : Code} {R : Nat → Nat → Nat} {L : Nat → Nat → Int64} {r : (Int32 × SI)} {N : Nat} (C : Cx l g p s m meth c cX10_valueUpTo 4 RX10) (hr : meth.sig.returnType = (some .int)) (hSh : ShR R) : ∀ (n : Nat) (σ : SI) (x0 : Nat) (x1 : Int32) (x2 : Int32) (x3 : Int32), f_X10_valueUpTo_7 N R n σ x0 x1 x2 x3 = some r → Ok 202 x0 10 → ∀ (H : Heap) (locs : List Loc) (ls : Array Slot), S2 g s σ R L H locs → lv_has ls 4 [(0, .ref (ga g x0)), (1, .int x1), (2, .int x2), (3, .int x3)] → W p l e (rmd 1 0 0) s m args below meth c H locs 0 0 (MQ below (Qg g 202 (PI R L r)) args s 0 0 (gA g)) (F0 m 7 ls []) := by
  have hx := C.1
  have hb := C.2.1
  intro n
  induction n with
  | zero =>
    intro σ x0 x1 x2 x3 h
    cases (show (none : Option (Int32 × SI)) = some r from h)
  | succ n ih =>
    intro σ x0 x1 x2 x3 h hx0 H locs ls S hl
    rw [f_X10_valueUpTo_7] at h
    refine lv_iload_n hx hb dX10_valueUpTo_7 rfl (lv_at hl 3 rfl) ?_
    refine lv_iload_n hx hb dX10_valueUpTo_8 rfl (lv_at hl 1 rfl) ?_
    refine lv_icmp_ge (tgt := 33) hx hb dX10_valueUpTo_9 (by decide) (fun c1 => ?_) (fun c1 => ?_)
    · have h := it_p c1 h
      refine lv_iload_n hx hb dX10_valueUpTo_33 rfl (lv_at hl 2 rfl) ?_
      exact x_iret C S hr h dX10_valueUpTo_34
    · have h := it_n c1 h
      refine lv_iload_n hx hb dX10_valueUpTo_12 rfl (lv_at hl 2 rfl) ?_
      refine lv_bipush (v := (10 : Int32)) hx hb dX10_valueUpTo_13 (by decide) ?_
      refine lv_imul hx hb dX10_valueUpTo_15 ?_
      refine lv_aload_n hx hb dX10_valueUpTo_16 rfl (lv_at hl 0 rfl) ?_
      have hR2 : Ok 202 (R x0 0) 20800 := hSh x0 10 0 20800 hx0.1 rfl
      refine x_getR C S KX10 hx0 0 (by decide) rfl rfl fl_RX10_9 hR2 dX10_valueUpTo_17 ?_
      refine lv_iload_n hx hb dX10_valueUpTo_20 rfl (lv_at hl 3 rfl) ?_
      obtain ⟨hi3, h⟩ := ck_el h
      refine x_bald (len := 800) C S (by decide) hR2 hi3 dX10_valueUpTo_21 ?_
      refine lv_iadd hx hb dX10_valueUpTo_22 ?_
      refine lv_bipush (v := (48 : Int32)) hx hb dX10_valueUpTo_23 (by decide) ?_
      refine lv_isub hx hb dX10_valueUpTo_25 ?_
      refine lv_istore_n (lv' := [(2, .int (((x2 * (10 : Int32)) + (σ (R x0 0) x3.toNatClampNeg)) - (48 : Int32))), (0, .ref (ga g x0)), (1, .int x1), (3, .int x3)]) hx hb dX10_valueUpTo_26 rfl hl (by decide) rfl (fun ls hl => ?_)
      refine lv_iinc (v := x3 + 1) (lv' := [(3, .int (x3 + 1)), (2, .int (((x2 * (10 : Int32)) + (σ (R x0 0) x3.toNatClampNeg)) - (48 : Int32))), (0, .ref (ga g x0)), (1, .int x1)]) hx hb dX10_valueUpTo_27 hl (k := 3) rfl rfl (by decide) rfl (fun ls hl => ?_)
      refine lv_goto (tgt := 7) hx hb dX10_valueUpTo_30 (by decide) ?_
      exact ih σ x0 x1 (((x2 * (10 : Int32)) + (σ (R x0 0) x3.toNatClampNeg)) - (48 : Int32)) (x3 + 1) h hx0 H locs ls S (lv_sub hl [2, 3, 1, 0] rfl)
set_option maxHeartbeats 4000000 in
set_option maxRecDepth 100000 in
theorem ok_X10_valueUpTo {l : Launch} {g : GL} {R : Nat → Nat → Nat} {L : Nat → Nat → Int64} {N : Nat} {σ : SI} {x0 : Nat} {x1 : Int32} {r : (Int32 × SI)} (h : f_X10_valueUpTo N R σ x0 x1 = some r) (hSh : ShR R) (hx0 : Ok 202 x0 10) : Ct l g 1 yX10_valueUpTo cX10_valueUpTo 4 (some .int) 202 202 0 0 [.ref (ga g x0), .int x1] (mkS σ R L) (PI R L r) := by
  refine Met.ofW (cc := cX10_valueUpTo) (maxL := 4) (ret := (some .int)) (by decide) rfl ?_
  intro p e s m args below meth c s₁ B hml hv
  obtain ⟨rfl, hE, hLo, hWd⟩ := hv
  have hr : meth.sig.returnType = (some .int) := B.returns
  have C : Cx l g p s m meth c cX10_valueUpTo 4 RX10 := ⟨B.exec, B.bytes, hml, findClass_of_methodNamed B.named, hE, hLo, B.notSynchronized⟩
  have S : S2 g s σ R L s.heap [] := ⟨hWd, va_S.rf⟩
  have hx := C.1
  have hb := C.2.1
  have hl := lv_entry ([.ref (ga g x0), .int x1]) (n := 4) (Nat.le_of_ble_eq_true rfl)
  rw [lg_entry_eq]
  generalize (lg_sl ([.ref (ga g x0), .int x1]) ++ List.replicate (4 - (lg_sl ([.ref (ga g x0), .int x1])).length) Slot.unset).toArray = ls at hl ⊢
  have hl : lv_has ls 4 [(0, .ref (ga g x0)), (1, .int x1)] := hl
  generalize hH : s.heap = H at S ⊢
  generalize hlc : ([] : List Loc) = locs at S ⊢
  rw [f_X10_valueUpTo] at h
  refine lv_iconst (v := (0 : Int32)) hx hb dX10_valueUpTo_0 (by decide) ?_
  refine lv_istore_n (lv' := [(2, .int (0 : Int32)), (0, .ref (ga g x0)), (1, .int x1)]) hx hb dX10_valueUpTo_1 rfl hl (by decide) rfl (fun ls hl => ?_)
  refine lv_aload_n hx hb dX10_valueUpTo_2 rfl (lv_at hl 1 rfl) ?_
  refine x_getI C S KX10 hx0 2 (by decide) rfl rfl fl_RX10_22 dX10_valueUpTo_3 ?_
  refine lv_istore_n (lv' := [(3, .int (σ x0 2)), (2, .int (0 : Int32)), (0, .ref (ga g x0)), (1, .int x1)]) hx hb dX10_valueUpTo_6 rfl hl (by decide) rfl (fun ls hl => ?_)
  exact w_X10_valueUpTo_7 C hr hSh N σ x0 x1 (0 : Int32) (σ x0 2) h hx0 H locs ls S (lv_sub hl [2, 3, 1, 0] rfl)
theorem dX12_window_0 : decode cX12_window 0 = .ok (.iconst 0, 1) := by decide +kernel
theorem dX12_window_1 : decode cX12_window 1 = .ok (.istore_n 3, 1) := by decide +kernel
theorem dX12_window_2 : decode cX12_window 2 = .ok (.iconst 0, 1) := by decide +kernel
theorem dX12_window_3 : decode cX12_window 3 = .ok (.istore 4, 2) := by decide +kernel
theorem dX12_window_5 : decode cX12_window 5 = .ok (.iload 4, 2) := by decide +kernel
theorem dX12_window_7 : decode cX12_window 7 = .ok (.aload_n 0, 1) := by decide +kernel
theorem dX12_window_8 : decode cX12_window 8 = .ok (.getfield 46, 3) := by decide +kernel
theorem dX12_window_11 : decode cX12_window 11 = .ok (.iload_n 1, 1) := by decide +kernel
theorem dX12_window_12 : decode cX12_window 12 = .ok (.iaload, 1) := by decide +kernel
theorem dX12_window_13 : decode cX12_window 13 = .ok (.if_icmp .ge 50, 3) := by decide +kernel
theorem dX12_window_16 : decode cX12_window 16 = .ok (.aload_n 0, 1) := by decide +kernel
theorem dX12_window_17 : decode cX12_window 17 = .ok (.getfield 60, 3) := by decide +kernel
theorem dX12_window_20 : decode cX12_window 20 = .ok (.iload_n 1, 1) := by decide +kernel
theorem dX12_window_21 : decode cX12_window 21 = .ok (.aaload, 1) := by decide +kernel
theorem dX12_window_22 : decode cX12_window 22 = .ok (.iload 4, 2) := by decide +kernel
theorem dX12_window_24 : decode cX12_window 24 = .ok (.iaload, 1) := by decide +kernel
theorem dX12_window_25 : decode cX12_window 25 = .ok (.iload_n 2, 1) := by decide +kernel
theorem dX12_window_26 : decode cX12_window 26 = .ok (.if_icmp .lt 31, 3) := by decide +kernel
theorem dX12_window_29 : decode cX12_window 29 = .ok (.aload_n 0, 1) := by decide +kernel
theorem dX12_window_30 : decode cX12_window 30 = .ok (.getfield 60, 3) := by decide +kernel
theorem dX12_window_33 : decode cX12_window 33 = .ok (.iload_n 1, 1) := by decide +kernel
theorem dX12_window_34 : decode cX12_window 34 = .ok (.aaload, 1) := by decide +kernel
theorem dX12_window_35 : decode cX12_window 35 = .ok (.iload 4, 2) := by decide +kernel
theorem dX12_window_37 : decode cX12_window 37 = .ok (.iaload, 1) := by decide +kernel
theorem dX12_window_38 : decode cX12_window 38 = .ok (.iload_n 2, 1) := by decide +kernel
theorem dX12_window_39 : decode cX12_window 39 = .ok (.bipush 8, 2) := by decide +kernel
theorem dX12_window_41 : decode cX12_window 41 = .ok (.iadd, 1) := by decide +kernel
theorem dX12_window_42 : decode cX12_window 42 = .ok (.if_icmp .ge 15, 3) := by decide +kernel
theorem dX12_window_45 : decode cX12_window 45 = .ok (.iload_n 3, 1) := by decide +kernel
theorem dX12_window_46 : decode cX12_window 46 = .ok (.aload_n 0, 1) := by decide +kernel
theorem dX12_window_47 : decode cX12_window 47 = .ok (.getfield 57, 3) := by decide +kernel
theorem dX12_window_50 : decode cX12_window 50 = .ok (.iload_n 1, 1) := by decide +kernel
theorem dX12_window_51 : decode cX12_window 51 = .ok (.aaload, 1) := by decide +kernel
theorem dX12_window_52 : decode cX12_window 52 = .ok (.iload 4, 2) := by decide +kernel
theorem dX12_window_54 : decode cX12_window 54 = .ok (.iaload, 1) := by decide +kernel
theorem dX12_window_55 : decode cX12_window 55 = .ok (.iadd, 1) := by decide +kernel
theorem dX12_window_56 : decode cX12_window 56 = .ok (.istore_n 3, 1) := by decide +kernel
theorem dX12_window_57 : decode cX12_window 57 = .ok (.iinc 4 1, 3) := by decide +kernel
theorem dX12_window_60 : decode cX12_window 60 = .ok (.goto (-55), 3) := by decide +kernel
theorem dX12_window_63 : decode cX12_window 63 = .ok (.iload_n 3, 1) := by decide +kernel
theorem dX12_window_64 : decode cX12_window 64 = .ok (.ireturn, 1) := by decide +kernel
def f_X12_window_57 (N : Nat) (R : Nat → Nat → Nat) (k5 : SI → Nat → Int32 → Int32 → Int32 → Int32 → Option (Int32 × SI)) (σ : SI) (x0 : Nat) (x1 : Int32) (x2 : Int32) (x3 : Int32) (x4 : Int32) : Option (Int32 × SI) := k5 σ x0 x1 x2 x3 (x4 + 1)
def f_X12_window_5 (N : Nat) (R : Nat → Nat → Nat) : Nat → SI → Nat → Int32 → Int32 → Int32 → Int32 → Option (Int32 × SI)
  | 0, _, _, _, _, _, _ => none
  | n + 1, σ, x0, x1, x2, x3, x4 => ck x1 3 (if (σ (R x0 21) x1.toNatClampNeg) ≤ x4 then (some (x3, σ)) else (ck x1 3 (ck x4 4 (if (σ (R (R x0 25) x1.toNatClampNeg) x4.toNatClampNeg) < x2 then (f_X12_window_57 N R (fun σ x0 x1 x2 x3 x4 => f_X12_window_5 N R n σ x0 x1 x2 x3 x4) σ x0 x1 x2 x3 x4) else (ck x1 3 (ck x4 4 (if (x2 + (8 : Int32)) ≤ (σ (R (R x0 25) x1.toNatClampNeg) x4.toNatClampNeg) then (f_X12_window_57 N R (fun σ x0 x1 x2 x3 x4 => f_X12_window_5 N R n σ x0 x1 x2 x3 x4) σ x0 x1 x2 x3 x4) else (ck x1 3 (ck x4 4 (f_X12_window_57 N R (fun σ x0 x1 x2 x3 x4 => f_X12_window_5 N R n σ x0 x1 x2 x3 x4) σ x0 x1 x2 (x3 + (σ (R (R x0 24) x1.toNatClampNeg) x4.toNatClampNeg)) x4))))))))))
def f_X12_window (N : Nat) (R : Nat → Nat → Nat) (σ : SI) (x0 : Nat) (x1 : Int32) (x2 : Int32) : Option (Int32 × SI) := f_X12_window_5 N R N σ x0 x1 x2 (0 : Int32) (0 : Int32)
set_option maxHeartbeats 4000000 in
set_option maxRecDepth 100000 in
theorem w_X12_window_57 {l : Launch} {g : GL} {p : Program} {e : Jvm.Env} {s : State} {m : MethodId} {args : Array Value} {below : List Frame} {meth : Method} {c : Code} {R : Nat → Nat → Nat} {L : Nat → Nat → Int64} {r : (Int32 × SI)} {N : Nat} {k5 : SI → Nat → Int32 → Int32 → Int32 → Int32 → Option (Int32 × SI)} (C : Cx l g p s m meth c cX12_window 5 RX12) (hr : meth.sig.returnType = (some .int)) (hSh : ShR R) (hk5 : ∀ (σ : SI) (x0 : Nat) (x1 : Int32) (x2 : Int32) (x3 : Int32) (x4 : Int32), k5 σ x0 x1 x2 x3 x4 = some r → Ok 202 x0 12 → ∀ (H : Heap) (locs : List Loc) (ls : Array Slot), S2 g s σ R L H locs → lv_has ls 5 [(0, .ref (ga g x0)), (1, .int x1), (2, .int x2), (3, .int x3), (4, .int x4)] → W p l e (rmd 1 0 0) s m args below meth c H locs 0 0 (MQ below (Qg g 202 (PI R L r)) args s 0 0 (gA g)) (F0 m 5 ls [])) : ∀ (σ : SI) (x0 : Nat) (x1 : Int32) (x2 : Int32) (x3 : Int32) (x4 : Int32), f_X12_window_57 N R k5 σ x0 x1 x2 x3 x4 = some r → Ok 202 x0 12 → ∀ (H : Heap) (locs : List Loc) (ls : Array Slot), S2 g s σ R L H locs → lv_has ls 5 [(0, .ref (ga g x0)), (1, .int x1), (2, .int x2), (3, .int x3), (4, .int x4)] → W p l e (rmd 1 0 0) s m args below meth c H locs 0 0 (MQ below (Qg g 202 (PI R L r)) args s 0 0 (gA g)) (F0 m 57 ls []) := by
  have hx := C.1
  have hb := C.2.1
  intro σ x0 x1 x2 x3 x4 h hx0 H locs ls S hl
  rw [f_X12_window_57] at h
  refine lv_iinc (v := x4 + 1) (lv' := [(4, .int (x4 + 1)), (0, .ref (ga g x0)), (1, .int x1), (2, .int x2), (3, .int x3)]) hx hb dX12_window_57 hl (k := 4) rfl rfl (by decide) rfl (fun ls hl => ?_)
  refine lv_goto (tgt := 5) hx hb dX12_window_60 (by decide) ?_
  exact hk5 σ x0 x1 x2 x3 (x4 + 1) h hx0 H locs ls S (lv_sub hl [1, 2, 3, 4, 0] rfl)
set_option maxHeartbeats 4000000 in
set_option maxRecDepth 100000 in
theorem w_X12_window_5 {l : Launch} {g : GL} {p : Program} {e : Jvm.Env} {s : State} {m : MethodId} {args : Array Value} {below : List Frame} {meth : Method} {c : Code} {R : Nat → Nat → Nat} {L : Nat → Nat → Int64} {r : (Int32 × SI)} {N : Nat} (C : Cx l g p s m meth c cX12_window 5 RX12) (hr : meth.sig.returnType = (some .int)) (hSh : ShR R) : ∀ (n : Nat) (σ : SI) (x0 : Nat) (x1 : Int32) (x2 : Int32) (x3 : Int32) (x4 : Int32), f_X12_window_5 N R n σ x0 x1 x2 x3 x4 = some r → Ok 202 x0 12 → ∀ (H : Heap) (locs : List Loc) (ls : Array Slot), S2 g s σ R L H locs → lv_has ls 5 [(0, .ref (ga g x0)), (1, .int x1), (2, .int x2), (3, .int x3), (4, .int x4)] → W p l e (rmd 1 0 0) s m args below meth c H locs 0 0 (MQ below (Qg g 202 (PI R L r)) args s 0 0 (gA g)) (F0 m 5 ls []) := by
  have hx := C.1
  have hb := C.2.1
  intro n
  induction n with
  | zero =>
    intro σ x0 x1 x2 x3 x4 h
    cases (show (none : Option (Int32 × SI)) = some r from h)
  | succ n ih =>
    intro σ x0 x1 x2 x3 x4 h hx0 H locs ls S hl
    rw [f_X12_window_5] at h
    refine lv_iload hx hb dX12_window_5 (lv_at hl 4 rfl) ?_
    refine lv_aload_n hx hb dX12_window_7 rfl (lv_at hl 0 rfl) ?_
    have hR1 : Ok 202 (R x0 21) 10003 := hSh x0 12 21 10003 hx0.1 rfl
    refine x_getR C S KX12 hx0 21 (by decide) rfl rfl fl_RX12_46 hR1 dX12_window_8 ?_
    refine lv_iload_n hx hb dX12_window_11 rfl (lv_at hl 1 rfl) ?_
    obtain ⟨hi2, h⟩ := ck_el h
    refine x_iald (len := 3) C S (by decide) hR1 hi2 dX12_window_12 ?_
    refine lv_icmp_ge (tgt := 63) hx hb dX12_window_13 (by decide) (fun c3 => ?_) (fun c3 => ?_)
    · have h := it_p c3 h
      refine lv_iload_n hx hb dX12_window_63 rfl (lv_at hl 3 rfl) ?_
      exact x_iret C S hr h dX12_window_64
    · have h := it_n c3 h
      refine lv_aload_n hx hb dX12_window_16 rfl (lv_at hl 0 rfl) ?_
      have hR4 : Ok 202 (R x0 25) 80003 := hSh x0 12 25 80003 hx0.1 rfl
      refine x_getR C S KX12 hx0 25 (by decide) rfl rfl fl_RX12_60 hR4 dX12_window_17 ?_
      refine lv_iload_n hx hb dX12_window_20 rfl (lv_at hl 1 rfl) ?_
      obtain ⟨hi5, h⟩ := ck_el h
      have hR6 : Ok 202 (R (R x0 25) x1.toNatClampNeg) 10004 := hSh (R x0 25) 80003 x1.toNatClampNeg 10004 hR4.1 (if_pos (vp_lt hi5))
      refine x_aald2 (len := 3) C S (by decide) hR4 hi5 hR6 dX12_window_21 ?_
      refine lv_iload hx hb dX12_window_22 (lv_at hl 4 rfl) ?_
      obtain ⟨hi7, h⟩ := ck_el h
      refine x_iald (len := 4) C S (by decide) hR6 hi7 dX12_window_24 ?_
      refine lv_iload_n hx hb dX12_window_25 rfl (lv_at hl 2 rfl) ?_
      refine lv_icmp_lt (tgt := 57) hx hb dX12_window_26 (by decide) (fun c8 => ?_) (fun c8 => ?_)
      · have h := it_p c8 h
        exact w_X12_window_57 C hr hSh ih σ x0 x1 x2 x3 x4 h hx0 H locs ls S (lv_sub hl [0, 1, 2, 3, 4] rfl)
      · have h := it_n c8 h
        refine lv_aload_n hx hb dX12_window_29 rfl (lv_at hl 0 rfl) ?_
        have hR9 : Ok 202 (R x0 25) 80003 := hSh x0 12 25 80003 hx0.1 rfl
        refine x_getR C S KX12 hx0 25 (by decide) rfl rfl fl_RX12_60 hR9 dX12_window_30 ?_
        refine lv_iload_n hx hb dX12_window_33 rfl (lv_at hl 1 rfl) ?_
        obtain ⟨hi10, h⟩ := ck_el h
        have hR11 : Ok 202 (R (R x0 25) x1.toNatClampNeg) 10004 := hSh (R x0 25) 80003 x1.toNatClampNeg 10004 hR9.1 (if_pos (vp_lt hi10))
        refine x_aald2 (len := 3) C S (by decide) hR9 hi10 hR11 dX12_window_34 ?_
        refine lv_iload hx hb dX12_window_35 (lv_at hl 4 rfl) ?_
        obtain ⟨hi12, h⟩ := ck_el h
        refine x_iald (len := 4) C S (by decide) hR11 hi12 dX12_window_37 ?_
        refine lv_iload_n hx hb dX12_window_38 rfl (lv_at hl 2 rfl) ?_
        refine lv_bipush (v := (8 : Int32)) hx hb dX12_window_39 (by decide) ?_
        refine lv_iadd hx hb dX12_window_41 ?_
        refine lv_icmp_ge (tgt := 57) hx hb dX12_window_42 (by decide) (fun c13 => ?_) (fun c13 => ?_)
        · have h := it_p c13 h
          exact w_X12_window_57 C hr hSh ih σ x0 x1 x2 x3 x4 h hx0 H locs ls S (lv_sub hl [0, 1, 2, 3, 4] rfl)
        · have h := it_n c13 h
          refine lv_iload_n hx hb dX12_window_45 rfl (lv_at hl 3 rfl) ?_
          refine lv_aload_n hx hb dX12_window_46 rfl (lv_at hl 0 rfl) ?_
          have hR14 : Ok 202 (R x0 24) 80003 := hSh x0 12 24 80003 hx0.1 rfl
          refine x_getR C S KX12 hx0 24 (by decide) rfl rfl fl_RX12_57 hR14 dX12_window_47 ?_
          refine lv_iload_n hx hb dX12_window_50 rfl (lv_at hl 1 rfl) ?_
          obtain ⟨hi15, h⟩ := ck_el h
          have hR16 : Ok 202 (R (R x0 24) x1.toNatClampNeg) 10004 := hSh (R x0 24) 80003 x1.toNatClampNeg 10004 hR14.1 (if_pos (vp_lt hi15))
          refine x_aald2 (len := 3) C S (by decide) hR14 hi15 hR16 dX12_window_51 ?_
          refine lv_iload hx hb dX12_window_52 (lv_at hl 4 rfl) ?_
          obtain ⟨hi17, h⟩ := ck_el h
          refine x_iald (len := 4) C S (by decide) hR16 hi17 dX12_window_54 ?_
          refine lv_iadd hx hb dX12_window_55 ?_
          refine lv_istore_n (lv' := [(3, .int (x3 + (σ (R (R x0 24) x1.toNatClampNeg) x4.toNatClampNeg))), (0, .ref (ga g x0)), (1, .int x1), (2, .int x2), (4, .int x4)]) hx hb dX12_window_56 rfl hl (by decide) rfl (fun ls hl => ?_)
          exact w_X12_window_57 C hr hSh ih σ x0 x1 x2 (x3 + (σ (R (R x0 24) x1.toNatClampNeg) x4.toNatClampNeg)) x4 h hx0 H locs ls S (lv_sub hl [1, 2, 3, 0, 4] rfl)
set_option maxHeartbeats 4000000 in
set_option maxRecDepth 100000 in
theorem ok_X12_window {l : Launch} {g : GL} {R : Nat → Nat → Nat} {L : Nat → Nat → Int64} {N : Nat} {σ : SI} {x0 : Nat} {x1 : Int32} {x2 : Int32} {r : (Int32 × SI)} (h : f_X12_window N R σ x0 x1 x2 = some r) (hSh : ShR R) (hx0 : Ok 202 x0 12) : Ct l g 1 yX12_window cX12_window 5 (some .int) 202 202 0 0 [.ref (ga g x0), .int x1, .int x2] (mkS σ R L) (PI R L r) := by
  refine Met.ofW (cc := cX12_window) (maxL := 5) (ret := (some .int)) (by decide) rfl ?_
  intro p e s m args below meth c s₁ B hml hv
  obtain ⟨rfl, hE, hLo, hWd⟩ := hv
  have hr : meth.sig.returnType = (some .int) := B.returns
  have C : Cx l g p s m meth c cX12_window 5 RX12 := ⟨B.exec, B.bytes, hml, findClass_of_methodNamed B.named, hE, hLo, B.notSynchronized⟩
  have S : S2 g s σ R L s.heap [] := ⟨hWd, va_S.rf⟩
  have hx := C.1
  have hb := C.2.1
  have hl := lv_entry ([.ref (ga g x0), .int x1, .int x2]) (n := 5) (Nat.le_of_ble_eq_true rfl)
  rw [lg_entry_eq]
  generalize (lg_sl ([.ref (ga g x0), .int x1, .int x2]) ++ List.replicate (5 - (lg_sl ([.ref (ga g x0), .int x1, .int x2])).length) Slot.unset).toArray = ls at hl ⊢
  have hl : lv_has ls 5 [(0, .ref (ga g x0)), (1, .int x1), (2, .int x2)] := hl
  generalize hH : s.heap = H at S ⊢
  generalize hlc : ([] : List Loc) = locs at S ⊢
  rw [f_X12_window] at h
  refine lv_iconst (v := (0 : Int32)) hx hb dX12_window_0 (by decide) ?_
  refine lv_istore_n (lv' := [(3, .int (0 : Int32)), (0, .ref (ga g x0)), (1, .int x1), (2, .int x2)]) hx hb dX12_window_1 rfl hl (by decide) rfl (fun ls hl => ?_)
  refine lv_iconst (v := (0 : Int32)) hx hb dX12_window_2 (by decide) ?_
  refine lv_istore (lv' := [(4, .int (0 : Int32)), (3, .int (0 : Int32)), (0, .ref (ga g x0)), (1, .int x1), (2, .int x2)]) hx hb dX12_window_3 hl (by decide) rfl (fun ls hl => ?_)
  exact w_X12_window_5 C hr hSh N σ x0 x1 x2 (0 : Int32) (0 : Int32) h hx0 H locs ls S (lv_sub hl [2, 3, 4, 1, 0] rfl)
theorem dX12_far_0 : decode cX12_far 0 = .ok (.aload_n 0, 1) := by decide +kernel
theorem dX12_far_1 : decode cX12_far 1 = .ok (.getfield 37, 3) := by decide +kernel
theorem dX12_far_4 : decode cX12_far 4 = .ok (.iload_n 1, 1) := by decide +kernel
theorem dX12_far_5 : decode cX12_far 5 = .ok (.iaload, 1) := by decide +kernel
theorem dX12_far_6 : decode cX12_far 6 = .ok (.aload_n 0, 1) := by decide +kernel
theorem dX12_far_7 : decode cX12_far 7 = .ok (.getfield 7, 3) := by decide +kernel
theorem dX12_far_10 : decode cX12_far 10 = .ok (.iload_n 2, 1) := by decide +kernel
theorem dX12_far_11 : decode cX12_far 11 = .ok (.iaload, 1) := by decide +kernel
theorem dX12_far_12 : decode cX12_far 12 = .ok (.isub, 1) := by decide +kernel
theorem dX12_far_13 : decode cX12_far 13 = .ok (.aload_n 0, 1) := by decide +kernel
theorem dX12_far_14 : decode cX12_far 14 = .ok (.getfield 37, 3) := by decide +kernel
theorem dX12_far_17 : decode cX12_far 17 = .ok (.iload_n 1, 1) := by decide +kernel
theorem dX12_far_18 : decode cX12_far 18 = .ok (.iaload, 1) := by decide +kernel
theorem dX12_far_19 : decode cX12_far 19 = .ok (.aload_n 0, 1) := by decide +kernel
theorem dX12_far_20 : decode cX12_far 20 = .ok (.getfield 7, 3) := by decide +kernel
theorem dX12_far_23 : decode cX12_far 23 = .ok (.iload_n 2, 1) := by decide +kernel
theorem dX12_far_24 : decode cX12_far 24 = .ok (.iaload, 1) := by decide +kernel
theorem dX12_far_25 : decode cX12_far 25 = .ok (.isub, 1) := by decide +kernel
theorem dX12_far_26 : decode cX12_far 26 = .ok (.imul, 1) := by decide +kernel
theorem dX12_far_27 : decode cX12_far 27 = .ok (.aload_n 0, 1) := by decide +kernel
theorem dX12_far_28 : decode cX12_far 28 = .ok (.getfield 40, 3) := by decide +kernel
theorem dX12_far_31 : decode cX12_far 31 = .ok (.iload_n 1, 1) := by decide +kernel
theorem dX12_far_32 : decode cX12_far 32 = .ok (.iaload, 1) := by decide +kernel
theorem dX12_far_33 : decode cX12_far 33 = .ok (.aload_n 0, 1) := by decide +kernel
theorem dX12_far_34 : decode cX12_far 34 = .ok (.getfield 13, 3) := by decide +kernel
theorem dX12_far_37 : decode cX12_far 37 = .ok (.iload_n 2, 1) := by decide +kernel
theorem dX12_far_38 : decode cX12_far 38 = .ok (.iaload, 1) := by decide +kernel
theorem dX12_far_39 : decode cX12_far 39 = .ok (.isub, 1) := by decide +kernel
theorem dX12_far_40 : decode cX12_far 40 = .ok (.aload_n 0, 1) := by decide +kernel
theorem dX12_far_41 : decode cX12_far 41 = .ok (.getfield 40, 3) := by decide +kernel
theorem dX12_far_44 : decode cX12_far 44 = .ok (.iload_n 1, 1) := by decide +kernel
theorem dX12_far_45 : decode cX12_far 45 = .ok (.iaload, 1) := by decide +kernel
theorem dX12_far_46 : decode cX12_far 46 = .ok (.aload_n 0, 1) := by decide +kernel
theorem dX12_far_47 : decode cX12_far 47 = .ok (.getfield 13, 3) := by decide +kernel
theorem dX12_far_50 : decode cX12_far 50 = .ok (.iload_n 2, 1) := by decide +kernel
theorem dX12_far_51 : decode cX12_far 51 = .ok (.iaload, 1) := by decide +kernel
theorem dX12_far_52 : decode cX12_far 52 = .ok (.isub, 1) := by decide +kernel
theorem dX12_far_53 : decode cX12_far 53 = .ok (.imul, 1) := by decide +kernel
theorem dX12_far_54 : decode cX12_far 54 = .ok (.iadd, 1) := by decide +kernel
theorem dX12_far_55 : decode cX12_far 55 = .ok (.ireturn, 1) := by decide +kernel
def f_X12_far (N : Nat) (R : Nat → Nat → Nat) (σ : SI) (x0 : Nat) (x1 : Int32) (x2 : Int32) : Option (Int32 × SI) := ck x1 3 (ck x2 2 (ck x1 3 (ck x2 2 (ck x1 3 (ck x2 2 (ck x1 3 (ck x2 2 (some ((((σ (R x0 18) x1.toNatClampNeg) - (σ (R x0 9) x2.toNatClampNeg)) * ((σ (R x0 18) x1.toNatClampNeg) - (σ (R x0 9) x2.toNatClampNeg))) + (((σ (R x0 19) x1.toNatClampNeg) - (σ (R x0 10) x2.toNatClampNeg)) * ((σ (R x0 19) x1.toNatClampNeg) - (σ (R x0 10) x2.toNatClampNeg))), σ)))))))))
set_option maxHeartbeats 4000000 in
set_option maxRecDepth 100000 in
theorem ok_X12_far {l : Launch} {g : GL} {R : Nat → Nat → Nat} {L : Nat → Nat → Int64} {N : Nat} {σ : SI} {x0 : Nat} {x1 : Int32} {x2 : Int32} {r : (Int32 × SI)} (h : f_X12_far N R σ x0 x1 x2 = some r) (hSh : ShR R) (hx0 : Ok 202 x0 12) : Ct l g 1 yX12_far cX12_far 3 (some .int) 202 202 0 0 [.ref (ga g x0), .int x1, .int x2] (mkS σ R L) (PI R L r) := by
  refine Met.ofW (cc := cX12_far) (maxL := 3) (ret := (some .int)) (by decide) rfl ?_
  intro p e s m args below meth c s₁ B hml hv
  obtain ⟨rfl, hE, hLo, hWd⟩ := hv
  have hr : meth.sig.returnType = (some .int) := B.returns
  have C : Cx l g p s m meth c cX12_far 3 RX12 := ⟨B.exec, B.bytes, hml, findClass_of_methodNamed B.named, hE, hLo, B.notSynchronized⟩
  have S : S2 g s σ R L s.heap [] := ⟨hWd, va_S.rf⟩
  have hx := C.1
  have hb := C.2.1
  have hl := lv_entry ([.ref (ga g x0), .int x1, .int x2]) (n := 3) (Nat.le_of_ble_eq_true rfl)
  rw [lg_entry_eq]
  generalize (lg_sl ([.ref (ga g x0), .int x1, .int x2]) ++ List.replicate (3 - (lg_sl ([.ref (ga g x0), .int x1, .int x2])).length) Slot.unset).toArray = ls at hl ⊢
  have hl : lv_has ls 3 [(0, .ref (ga g x0)), (1, .int x1), (2, .int x2)] := hl
  generalize hH : s.heap = H at S ⊢
  generalize hlc : ([] : List Loc) = locs at S ⊢
  rw [f_X12_far] at h
  refine lv_aload_n hx hb dX12_far_0 rfl (lv_at hl 0 rfl) ?_
  have hR1 : Ok 202 (R x0 18) 10003 := hSh x0 12 18 10003 hx0.1 rfl
  refine x_getR C S KX12 hx0 18 (by decide) rfl rfl fl_RX12_37 hR1 dX12_far_1 ?_
  refine lv_iload_n hx hb dX12_far_4 rfl (lv_at hl 1 rfl) ?_
  obtain ⟨hi2, h⟩ := ck_el h
  refine x_iald (len := 3) C S (by decide) hR1 hi2 dX12_far_5 ?_
  refine lv_aload_n hx hb dX12_far_6 rfl (lv_at hl 0 rfl) ?_
  have hR3 : Ok 202 (R x0 9) 10002 := hSh x0 12 9 10002 hx0.1 rfl
  refine x_getR C S KX12 hx0 9 (by decide) rfl rfl fl_RX12_7 hR3 dX12_far_7 ?_
  refine lv_iload_n hx hb dX12_far_10 rfl (lv_at hl 2 rfl) ?_
  obtain ⟨hi4, h⟩ := ck_el h
  refine x_iald (len := 2) C S (by decide) hR3 hi4 dX12_far_11 ?_
  refine lv_isub hx hb dX12_far_12 ?_
  refine lv_aload_n hx hb dX12_far_13 rfl (lv_at hl 0 rfl) ?_
  have hR5 : Ok 202 (R x0 18) 10003 := hSh x0 12 18 10003 hx0.1 rfl
  refine x_getR C S KX12 hx0 18 (by decide) rfl rfl fl_RX12_37 hR5 dX12_far_14 ?_
  refine lv_iload_n hx hb dX12_far_17 rfl (lv_at hl 1 rfl) ?_
  obtain ⟨hi6, h⟩ := ck_el h
  refine x_iald (len := 3) C S (by decide) hR5 hi6 dX12_far_18 ?_
  refine lv_aload_n hx hb dX12_far_19 rfl (lv_at hl 0 rfl) ?_
  have hR7 : Ok 202 (R x0 9) 10002 := hSh x0 12 9 10002 hx0.1 rfl
  refine x_getR C S KX12 hx0 9 (by decide) rfl rfl fl_RX12_7 hR7 dX12_far_20 ?_
  refine lv_iload_n hx hb dX12_far_23 rfl (lv_at hl 2 rfl) ?_
  obtain ⟨hi8, h⟩ := ck_el h
  refine x_iald (len := 2) C S (by decide) hR7 hi8 dX12_far_24 ?_
  refine lv_isub hx hb dX12_far_25 ?_
  refine lv_imul hx hb dX12_far_26 ?_
  refine lv_aload_n hx hb dX12_far_27 rfl (lv_at hl 0 rfl) ?_
  have hR9 : Ok 202 (R x0 19) 10003 := hSh x0 12 19 10003 hx0.1 rfl
  refine x_getR C S KX12 hx0 19 (by decide) rfl rfl fl_RX12_40 hR9 dX12_far_28 ?_
  refine lv_iload_n hx hb dX12_far_31 rfl (lv_at hl 1 rfl) ?_
  obtain ⟨hi10, h⟩ := ck_el h
  refine x_iald (len := 3) C S (by decide) hR9 hi10 dX12_far_32 ?_
  refine lv_aload_n hx hb dX12_far_33 rfl (lv_at hl 0 rfl) ?_
  have hR11 : Ok 202 (R x0 10) 10002 := hSh x0 12 10 10002 hx0.1 rfl
  refine x_getR C S KX12 hx0 10 (by decide) rfl rfl fl_RX12_13 hR11 dX12_far_34 ?_
  refine lv_iload_n hx hb dX12_far_37 rfl (lv_at hl 2 rfl) ?_
  obtain ⟨hi12, h⟩ := ck_el h
  refine x_iald (len := 2) C S (by decide) hR11 hi12 dX12_far_38 ?_
  refine lv_isub hx hb dX12_far_39 ?_
  refine lv_aload_n hx hb dX12_far_40 rfl (lv_at hl 0 rfl) ?_
  have hR13 : Ok 202 (R x0 19) 10003 := hSh x0 12 19 10003 hx0.1 rfl
  refine x_getR C S KX12 hx0 19 (by decide) rfl rfl fl_RX12_40 hR13 dX12_far_41 ?_
  refine lv_iload_n hx hb dX12_far_44 rfl (lv_at hl 1 rfl) ?_
  obtain ⟨hi14, h⟩ := ck_el h
  refine x_iald (len := 3) C S (by decide) hR13 hi14 dX12_far_45 ?_
  refine lv_aload_n hx hb dX12_far_46 rfl (lv_at hl 0 rfl) ?_
  have hR15 : Ok 202 (R x0 10) 10002 := hSh x0 12 10 10002 hx0.1 rfl
  refine x_getR C S KX12 hx0 10 (by decide) rfl rfl fl_RX12_13 hR15 dX12_far_47 ?_
  refine lv_iload_n hx hb dX12_far_50 rfl (lv_at hl 2 rfl) ?_
  obtain ⟨hi16, h⟩ := ck_el h
  refine x_iald (len := 2) C S (by decide) hR15 hi16 dX12_far_51 ?_
  refine lv_isub hx hb dX12_far_52 ?_
  refine lv_imul hx hb dX12_far_53 ?_
  refine lv_iadd hx hb dX12_far_54 ?_
  exact x_iret C S hr h dX12_far_55
