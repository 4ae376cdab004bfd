theorem dX11_truncate_0 : decode cX11_truncate 0 = .ok (.aload_n 0, 1) := by decide +kernel
theorem dX11_truncate_1 : decode cX11_truncate 1 = .ok (.getfield 10, 3) := by decide +kernel
theorem dX11_truncate_4 : decode cX11_truncate 4 = .ok (.getfield 68, 3) := by decide +kernel
theorem dX11_truncate_7 : decode cX11_truncate 7 = .ok (.astore_n 2, 1) := by decide +kernel
theorem dX11_truncate_8 : decode cX11_truncate 8 = .ok (.iload_n 1, 1) := by decide +kernel
theorem dX11_truncate_9 : decode cX11_truncate 9 = .ok (.ifCond .lt 11, 3) := by decide +kernel
theorem dX11_truncate_12 : decode cX11_truncate 12 = .ok (.iload_n 1, 1) := by decide +kernel
theorem dX11_truncate_13 : decode cX11_truncate 13 = .ok (.aload_n 2, 1) := by decide +kernel
theorem dX11_truncate_14 : decode cX11_truncate 14 = .ok (.getfield 82, 3) := by decide +kernel
theorem dX11_truncate_17 : decode cX11_truncate 17 = .ok (.if_icmp .le 5, 3) := by decide +kernel
theorem dX11_truncate_20 : decode cX11_truncate 20 = .ok (.iconst 0, 1) := by decide +kernel
theorem dX11_truncate_21 : decode cX11_truncate 21 = .ok (.ireturn, 1) := by decide +kernel
theorem dX11_truncate_22 : decode cX11_truncate 22 = .ok (.aload_n 2, 1) := by decide +kernel
theorem dX11_truncate_23 : decode cX11_truncate 23 = .ok (.iload_n 1, 1) := by decide +kernel
theorem dX11_truncate_24 : decode cX11_truncate 24 = .ok (.putfield 82, 3) := by decide +kernel
theorem dX11_truncate_27 : decode cX11_truncate 27 = .ok (.iconst 1, 1) := by decide +kernel
theorem dX11_truncate_28 : decode cX11_truncate 28 = .ok (.ireturn, 1) := by decide +kernel
def f_X11_truncate (N : Nat) (R : Nat → Nat → Nat) (σ : SI) (x0 : Nat) (x1 : Int32) : Option (Int32 × SI) := if x1 < 0 then (some ((0 : Int32), σ)) else (if x1 ≤ (σ (R (R x0 0) 0) 1) then (sq (up σ (R (R x0 0) 0) 1 x1) (fun σ5 => some ((1 : Int32), σ5))) else (some ((0 : Int32), σ)))
set_option maxHeartbeats 4000000 in
set_option maxRecDepth 100000 in
theorem ok_X11_truncate {l : Launch} {g : GL} {R : Nat → Nat → Nat} {L : Nat → Nat → Int64} {N : Nat} {σ : SI} {x0 : Nat} {x1 : Int32} {r : (Int32 × SI)} (h : f_X11_truncate N R σ x0 x1 = some r) (hSh : ShR R) (hx0 : Ok 194 x0 11) : Ct l g 1 yX11_truncate cX11_truncate 3 (some .boolean) 194 194 0 0 [.ref (gb g + x0), .int x1] (mkS σ R L) (PI R L r) := by
  refine Met.ofW (cc := cX11_truncate) (maxL := 3) (ret := (some .boolean)) (by decide) rfl ?_
  intro p e s m args below meth c s₁ B hml hv
  obtain ⟨rfl, hE, hLo, hWd⟩ := hv
  have hr : meth.sig.returnType = (some .boolean) := B.returns
  have C : Cx l g p s m meth c cX11_truncate 3 RX11 := ⟨B.exec, B.bytes, hml, findClass_of_methodNamed B.named, hE, hLo, B.notSynchronized⟩
  have S : S2 g s σ R L s.heap [] := ⟨hWd, va_S.rf⟩
  have hx := C.1
  have hb := C.2.1
  have hl := lv_entry ([.ref (gb g + x0), .int x1]) (n := 3) (Nat.le_of_ble_eq_true rfl)
  rw [lg_entry_eq]
  generalize (lg_sl ([.ref (gb g + x0), .int x1]) ++ List.replicate (3 - (lg_sl ([.ref (gb g + x0), .int x1])).length) Slot.unset).toArray = ls at hl ⊢
  have hl : lv_has ls 3 [(0, .ref (gb g + x0)), (1, .int x1)] := hl
  generalize hH : s.heap = H at S ⊢
  generalize hlc : ([] : List Loc) = locs at S ⊢
  rw [f_X11_truncate] at h
  refine lv_aload_n hx hb dX11_truncate_0 rfl (lv_at hl 0 rfl) ?_
  have hR1 : Ok 194 (R x0 0) 5 := hSh x0 11 0 5 hx0.1 rfl
  refine x_getR C S KX11 hx0 0 (by decide) rfl rfl fl_RX11_10 hR1 dX11_truncate_1 ?_
  have hR2 : Ok 194 (R (R x0 0) 0) 10 := hSh (R x0 0) 5 0 10 hR1.1 rfl
  refine x_getR C S KX5 hR1 0 (by decide) rfl rfl fl_RX11_68 hR2 dX11_truncate_4 ?_
  refine lv_astore_n (lv' := [(2, .ref (gb g + (R (R x0 0) 0))), (0, .ref (gb g + x0)), (1, .int x1)]) hx hb dX11_truncate_7 rfl hl (by decide) rfl (fun ls hl => ?_)
  refine lv_iload_n hx hb dX11_truncate_8 rfl (lv_at hl 2 rfl) ?_
  refine lv_if_lt (tgt := 20) hx hb dX11_truncate_9 (by decide) (fun c3 => ?_) (fun c3 => ?_)
  · have h := it_p c3 h
    refine lv_iconst (v := (0 : Int32)) hx hb dX11_truncate_20 (by decide) ?_
    exact x_zret C S hr (by decide) h dX11_truncate_21
  · have h := it_n c3 h
    refine lv_iload_n hx hb dX11_truncate_12 rfl (lv_at hl 2 rfl) ?_
    refine lv_aload_n hx hb dX11_truncate_13 rfl (lv_at hl 0 rfl) ?_
    refine x_getI C S KX10 hR2 1 (by decide) rfl rfl fl_RX11_82 dX11_truncate_14 ?_
    refine lv_icmp_le (tgt := 22) hx hb dX11_truncate_17 (by decide) (fun c4 => ?_) (fun c4 => ?_)
    · have h := it_p c4 h
      refine lv_aload_n hx hb dX11_truncate_22 rfl (lv_at hl 0 rfl) ?_
      refine lv_iload_n hx hb dX11_truncate_23 rfl (lv_at hl 2 rfl) ?_
      obtain ⟨σ5, hs5, h⟩ := sq_el h
      refine x_putI C S KX10 hR2 1 (by decide) rfl rfl rfl ⟨rfl, rfl⟩ fl_RX11_82 dX11_truncate_24 hs5 (fun H locs S => ?_)
      refine lv_iconst (v := (1 : Int32)) hx hb dX11_truncate_27 (by decide) ?_
      exact x_zret C S hr (by decide) h dX11_truncate_28
    · have h := it_n c4 h
      refine lv_iconst (v := (0 : Int32)) hx hb dX11_truncate_20 (by decide) ?_
      exact x_zret C S hr (by decide) h dX11_truncate_21
theorem dX11_errorOffset_0 : decode cX11_errorOffset 0 = .ok (.aload_n 0, 1) := by decide +kernel
theorem dX11_errorOffset_1 : decode cX11_errorOffset 1 = .ok (.getfield 10, 3) := by decide +kernel
theorem dX11_errorOffset_4 : decode cX11_errorOffset 4 = .ok (.getfield 68, 3) := by decide +kernel
theorem dX11_errorOffset_7 : decode cX11_errorOffset 7 = .ok (.getfield 109, 3) := by decide +kernel
theorem dX11_errorOffset_10 : decode cX11_errorOffset 10 = .ok (.ireturn, 1) := by decide +kernel
def f_X11_errorOffset (N : Nat) (R : Nat → Nat → Nat) (σ : SI) (x0 : Nat) : Option (Int32 × SI) := some (σ (R (R x0 0) 0) 3, σ)
set_option maxHeartbeats 4000000 in
set_option maxRecDepth 100000 in
theorem ok_X11_errorOffset {l : Launch} {g : GL} {R : Nat → Nat → Nat} {L : Nat → Nat → Int64} {N : Nat} {σ : SI} {x0 : Nat} {r : (Int32 × SI)} (h : f_X11_errorOffset N R σ x0 = some r) (hSh : ShR R) (hx0 : Ok 194 x0 11) : Ct l g 1 yX11_errorOffset cX11_errorOffset 1 (some .int) 194 194 0 0 [.ref (gb g + x0)] (mkS σ R L) (PI R L r) := by
  refine Met.ofW (cc := cX11_errorOffset) (maxL := 1) (ret := (some .int)) (by decide) rfl ?_
  intro p e s m args below meth c s₁ B hml hv
  obtain ⟨rfl, hE, hLo, hWd⟩ := hv
  have hr : meth.sig.returnType = (some .int) := B.returns
  have C : Cx l g p s m meth c cX11_errorOffset 1 RX11 := ⟨B.exec, B.bytes, hml, findClass_of_methodNamed B.named, hE, hLo, B.notSynchronized⟩
  have S : S2 g s σ R L s.heap [] := ⟨hWd, va_S.rf⟩
  have hx := C.1
  have hb := C.2.1
  have hl := lv_entry ([.ref (gb g + x0)]) (n := 1) (Nat.le_of_ble_eq_true rfl)
  rw [lg_entry_eq]
  generalize (lg_sl ([.ref (gb g + x0)]) ++ List.replicate (1 - (lg_sl ([.ref (gb g + x0)])).length) Slot.unset).toArray = ls at hl ⊢
  have hl : lv_has ls 1 [(0, .ref (gb g + x0))] := hl
  generalize hH : s.heap = H at S ⊢
  generalize hlc : ([] : List Loc) = locs at S ⊢
  rw [f_X11_errorOffset] at h
  refine lv_aload_n hx hb dX11_errorOffset_0 rfl (lv_at hl 0 rfl) ?_
  have hR1 : Ok 194 (R x0 0) 5 := hSh x0 11 0 5 hx0.1 rfl
  refine x_getR C S KX11 hx0 0 (by decide) rfl rfl fl_RX11_10 hR1 dX11_errorOffset_1 ?_
  have hR2 : Ok 194 (R (R x0 0) 0) 10 := hSh (R x0 0) 5 0 10 hR1.1 rfl
  refine x_getR C S KX5 hR1 0 (by decide) rfl rfl fl_RX11_68 hR2 dX11_errorOffset_4 ?_
  refine x_getI C S KX10 hR2 3 (by decide) rfl rfl fl_RX11_109 dX11_errorOffset_7 ?_
  exact x_iret C S hr h dX11_errorOffset_10
theorem dX11_errorKind_0 : decode cX11_errorKind 0 = .ok (.aload_n 0, 1) := by decide +kernel
theorem dX11_errorKind_1 : decode cX11_errorKind 1 = .ok (.getfield 10, 3) := by decide +kernel
theorem dX11_errorKind_4 : decode cX11_errorKind 4 = .ok (.getfield 68, 3) := by decide +kernel
theorem dX11_errorKind_7 : decode cX11_errorKind 7 = .ok (.getfield 112, 3) := by decide +kernel
theorem dX11_errorKind_10 : decode cX11_errorKind 10 = .ok (.ireturn, 1) := by decide +kernel
def f_X11_errorKind (N : Nat) (R : Nat → Nat → Nat) (σ : SI) (x0 : Nat) : Option (Int32 × SI) := some (σ (R (R x0 0) 0) 4, σ)
set_option maxHeartbeats 4000000 in
set_option maxRecDepth 100000 in
theorem ok_X11_errorKind {l : Launch} {g : GL} {R : Nat → Nat → Nat} {L : Nat → Nat → Int64} {N : Nat} {σ : SI} {x0 : Nat} {r : (Int32 × SI)} (h : f_X11_errorKind N R σ x0 = some r) (hSh : ShR R) (hx0 : Ok 194 x0 11) : Ct l g 1 yX11_errorKind cX11_errorKind 1 (some .int) 194 194 0 0 [.ref (gb g + x0)] (mkS σ R L) (PI R L r) := by
  refine Met.ofW (cc := cX11_errorKind) (maxL := 1) (ret := (some .int)) (by decide) rfl ?_
  intro p e s m args below meth c s₁ B hml hv
  obtain ⟨rfl, hE, hLo, hWd⟩ := hv
  have hr : meth.sig.returnType = (some .int) := B.returns
  have C : Cx l g p s m meth c cX11_errorKind 1 RX11 := ⟨B.exec, B.bytes, hml, findClass_of_methodNamed B.named, hE, hLo, B.notSynchronized⟩
  have S : S2 g s σ R L s.heap [] := ⟨hWd, va_S.rf⟩
  have hx := C.1
  have hb := C.2.1
  have hl := lv_entry ([.ref (gb g + x0)]) (n := 1) (Nat.le_of_ble_eq_true rfl)
  rw [lg_entry_eq]
  generalize (lg_sl ([.ref (gb g + x0)]) ++ List.replicate (1 - (lg_sl ([.ref (gb g + x0)])).length) Slot.unset).toArray = ls at hl ⊢
  have hl : lv_has ls 1 [(0, .ref (gb g + x0))] := hl
  generalize hH : s.heap = H at S ⊢
  generalize hlc : ([] : List Loc) = locs at S ⊢
  rw [f_X11_errorKind] at h
  refine lv_aload_n hx hb dX11_errorKind_0 rfl (lv_at hl 0 rfl) ?_
  have hR1 : Ok 194 (R x0 0) 5 := hSh x0 11 0 5 hx0.1 rfl
  refine x_getR C S KX11 hx0 0 (by decide) rfl rfl fl_RX11_10 hR1 dX11_errorKind_1 ?_
  have hR2 : Ok 194 (R (R x0 0) 0) 10 := hSh (R x0 0) 5 0 10 hR1.1 rfl
  refine x_getR C S KX5 hR1 0 (by decide) rfl rfl fl_RX11_68 hR2 dX11_errorKind_4 ?_
  refine x_getI C S KX10 hR2 4 (by decide) rfl rfl fl_RX11_112 dX11_errorKind_7 ?_
  exact x_iret C S hr h dX11_errorKind_10
theorem dX11_blastCount_0 : decode cX11_blastCount 0 = .ok (.aload_n 0, 1) := by decide +kernel
theorem dX11_blastCount_1 : decode cX11_blastCount 1 = .ok (.getfield 61, 3) := by decide +kernel
theorem dX11_blastCount_4 : decode cX11_blastCount 4 = .ok (.getfield 106, 3) := by decide +kernel
theorem dX11_blastCount_7 : decode cX11_blastCount 7 = .ok (.ireturn, 1) := by decide +kernel
def f_X11_blastCount (N : Nat) (R : Nat → Nat → Nat) (σ : SI) (x0 : Nat) : Option (Int32 × SI) := some (σ (R x0 8) 11, σ)
set_option maxHeartbeats 4000000 in
set_option maxRecDepth 100000 in
theorem ok_X11_blastCount {l : Launch} {g : GL} {R : Nat → Nat → Nat} {L : Nat → Nat → Int64} {N : Nat} {σ : SI} {x0 : Nat} {r : (Int32 × SI)} (h : f_X11_blastCount N R σ x0 = some r) (hSh : ShR R) (hx0 : Ok 194 x0 11) : Ct l g 1 yX11_blastCount cX11_blastCount 1 (some .int) 194 194 0 0 [.ref (gb g + x0)] (mkS σ R L) (PI R L r) := by
  refine Met.ofW (cc := cX11_blastCount) (maxL := 1) (ret := (some .int)) (by decide) rfl ?_
  intro p e s m args below meth c s₁ B hml hv
  obtain ⟨rfl, hE, hLo, hWd⟩ := hv
  have hr : meth.sig.returnType = (some .int) := B.returns
  have C : Cx l g p s m meth c cX11_blastCount 1 RX11 := ⟨B.exec, B.bytes, hml, findClass_of_methodNamed B.named, hE, hLo, B.notSynchronized⟩
  have S : S2 g s σ R L s.heap [] := ⟨hWd, va_S.rf⟩
  have hx := C.1
  have hb := C.2.1
  have hl := lv_entry ([.ref (gb g + x0)]) (n := 1) (Nat.le_of_ble_eq_true rfl)
  rw [lg_entry_eq]
  generalize (lg_sl ([.ref (gb g + x0)]) ++ List.replicate (1 - (lg_sl ([.ref (gb g + x0)])).length) Slot.unset).toArray = ls at hl ⊢
  have hl : lv_has ls 1 [(0, .ref (gb g + x0))] := hl
  generalize hH : s.heap = H at S ⊢
  generalize hlc : ([] : List Loc) = locs at S ⊢
  rw [f_X11_blastCount] at h
  refine lv_aload_n hx hb dX11_blastCount_0 rfl (lv_at hl 0 rfl) ?_
  have hR1 : Ok 194 (R x0 8) 9 := hSh x0 11 8 9 hx0.1 rfl
  refine x_getR C S KX11 hx0 8 (by decide) rfl rfl fl_RX11_61 hR1 dX11_blastCount_1 ?_
  refine x_getI C S KX9 hR1 11 (by decide) rfl rfl fl_RX11_106 dX11_blastCount_4 ?_
  exact x_iret C S hr h dX11_blastCount_7
theorem dX11_neighbourCount_0 : decode cX11_neighbourCount 0 = .ok (.aload_n 0, 1) := by decide +kernel
theorem dX11_neighbourCount_1 : decode cX11_neighbourCount 1 = .ok (.getfield 61, 3) := by decide +kernel
theorem dX11_neighbourCount_4 : decode cX11_neighbourCount 4 = .ok (.getfield 115, 3) := by decide +kernel
theorem dX11_neighbourCount_7 : decode cX11_neighbourCount 7 = .ok (.ireturn, 1) := by decide +kernel
def f_X11_neighbourCount (N : Nat) (R : Nat → Nat → Nat) (σ : SI) (x0 : Nat) : Option (Int32 × SI) := some (σ (R x0 8) 9, σ)
set_option maxHeartbeats 4000000 in
set_option maxRecDepth 100000 in
theorem ok_X11_neighbourCount {l : Launch} {g : GL} {R : Nat → Nat → Nat} {L : Nat → Nat → Int64} {N : Nat} {σ : SI} {x0 : Nat} {r : (Int32 × SI)} (h : f_X11_neighbourCount N R σ x0 = some r) (hSh : ShR R) (hx0 : Ok 194 x0 11) : Ct l g 1 yX11_neighbourCount cX11_neighbourCount 1 (some .int) 194 194 0 0 [.ref (gb g + x0)] (mkS σ R L) (PI R L r) := by
  refine Met.ofW (cc := cX11_neighbourCount) (maxL := 1) (ret := (some .int)) (by decide) rfl ?_
  intro p e s m args below meth c s₁ B hml hv
  obtain ⟨rfl, hE, hLo, hWd⟩ := hv
  have hr : meth.sig.returnType = (some .int) := B.returns
  have C : Cx l g p s m meth c cX11_neighbourCount 1 RX11 := ⟨B.exec, B.bytes, hml, findClass_of_methodNamed B.named, hE, hLo, B.notSynchronized⟩
  have S : S2 g s σ R L s.heap [] := ⟨hWd, va_S.rf⟩
  have hx := C.1
  have hb := C.2.1
  have hl := lv_entry ([.ref (gb g + x0)]) (n := 1) (Nat.le_of_ble_eq_true rfl)
  rw [lg_entry_eq]
  generalize (lg_sl ([.ref (gb g + x0)]) ++ List.replicate (1 - (lg_sl ([.ref (gb g + x0)])).length) Slot.unset).toArray = ls at hl ⊢
  have hl : lv_has ls 1 [(0, .ref (gb g + x0))] := hl
  generalize hH : s.heap = H at S ⊢
  generalize hlc : ([] : List Loc) = locs at S ⊢
  rw [f_X11_neighbourCount] at h
  refine lv_aload_n hx hb dX11_neighbourCount_0 rfl (lv_at hl 0 rfl) ?_
  have hR1 : Ok 194 (R x0 8) 9 := hSh x0 11 8 9 hx0.1 rfl
  refine x_getR C S KX11 hx0 8 (by decide) rfl rfl fl_RX11_61 hR1 dX11_neighbourCount_1 ?_
  refine x_getI C S KX9 hR1 9 (by decide) rfl rfl fl_RX11_115 dX11_neighbourCount_4 ?_
  exact x_iret C S hr h dX11_neighbourCount_7
theorem dX11_roadCount_0 : decode cX11_roadCount 0 = .ok (.aload_n 0, 1) := by decide +kernel
theorem dX11_roadCount_1 : decode cX11_roadCount 1 = .ok (.getfield 61, 3) := by decide +kernel
theorem dX11_roadCount_4 : decode cX11_roadCount 4 = .ok (.getfield 118, 3) := by decide +kernel
theorem dX11_roadCount_7 : decode cX11_roadCount 7 = .ok (.ireturn, 1) := by decide +kernel
def f_X11_roadCount (N : Nat) (R : Nat → Nat → Nat) (σ : SI) (x0 : Nat) : Option (Int32 × SI) := some (σ (R x0 8) 10, σ)
set_option maxHeartbeats 4000000 in
set_option maxRecDepth 100000 in
theorem ok_X11_roadCount {l : Launch} {g : GL} {R : Nat → Nat → Nat} {L : Nat → Nat → Int64} {N : Nat} {σ : SI} {x0 : Nat} {r : (Int32 × SI)} (h : f_X11_roadCount N R σ x0 = some r) (hSh : ShR R) (hx0 : Ok 194 x0 11) : Ct l g 1 yX11_roadCount cX11_roadCount 1 (some .int) 194 194 0 0 [.ref (gb g + x0)] (mkS σ R L) (PI R L r) := by
  refine Met.ofW (cc := cX11_roadCount) (maxL := 1) (ret := (some .int)) (by decide) rfl ?_
  intro p e s m args below meth c s₁ B hml hv
  obtain ⟨rfl, hE, hLo, hWd⟩ := hv
  have hr : meth.sig.returnType = (some .int) := B.returns
  have C : Cx l g p s m meth c cX11_roadCount 1 RX11 := ⟨B.exec, B.bytes, hml, findClass_of_methodNamed B.named, hE, hLo, B.notSynchronized⟩
  have S : S2 g s σ R L s.heap [] := ⟨hWd, va_S.rf⟩
  have hx := C.1
  have hb := C.2.1
  have hl := lv_entry ([.ref (gb g + x0)]) (n := 1) (Nat.le_of_ble_eq_true rfl)
  rw [lg_entry_eq]
  generalize (lg_sl ([.ref (gb g + x0)]) ++ List.replicate (1 - (lg_sl ([.ref (gb g + x0)])).length) Slot.unset).toArray = ls at hl ⊢
  have hl : lv_has ls 1 [(0, .ref (gb g + x0))] := hl
  generalize hH : s.heap = H at S ⊢
  generalize hlc : ([] : List Loc) = locs at S ⊢
  rw [f_X11_roadCount] at h
  refine lv_aload_n hx hb dX11_roadCount_0 rfl (lv_at hl 0 rfl) ?_
  have hR1 : Ok 194 (R x0 8) 9 := hSh x0 11 8 9 hx0.1 rfl
  refine x_getR C S KX11 hx0 8 (by decide) rfl rfl fl_RX11_61 hR1 dX11_roadCount_1 ?_
  refine x_getI C S KX9 hR1 10 (by decide) rfl rfl fl_RX11_118 dX11_roadCount_4 ?_
  exact x_iret C S hr h dX11_roadCount_7
theorem dX11_undoDepth_0 : decode cX11_undoDepth 0 = .ok (.aload_n 0, 1) := by decide +kernel
theorem dX11_undoDepth_1 : decode cX11_undoDepth 1 = .ok (.getfield 19, 3) := by decide +kernel
theorem dX11_undoDepth_4 : decode cX11_undoDepth 4 = .ok (.getfield 338, 3) := by decide +kernel
theorem dX11_undoDepth_7 : decode cX11_undoDepth 7 = .ok (.ireturn, 1) := by decide +kernel
def f_X11_undoDepth (N : Nat) (R : Nat → Nat → Nat) (σ : SI) (x0 : Nat) : Option (Int32 × SI) := some (σ (R x0 1) 2, σ)
set_option maxHeartbeats 4000000 in
set_option maxRecDepth 100000 in
theorem ok_X11_undoDepth {l : Launch} {g : GL} {R : Nat → Nat → Nat} {L : Nat → Nat → Int64} {N : Nat} {σ : SI} {x0 : Nat} {r : (Int32 × SI)} (h : f_X11_undoDepth N R σ x0 = some r) (hSh : ShR R) (hx0 : Ok 194 x0 11) : Ct l g 1 yX11_undoDepth cX11_undoDepth 1 (some .int) 194 194 0 0 [.ref (gb g + x0)] (mkS σ R L) (PI R L r) := by
  refine Met.ofW (cc := cX11_undoDepth) (maxL := 1) (ret := (some .int)) (by decide) rfl ?_
  intro p e s m args below meth c s₁ B hml hv
  obtain ⟨rfl, hE, hLo, hWd⟩ := hv
  have hr : meth.sig.returnType = (some .int) := B.returns
  have C : Cx l g p s m meth c cX11_undoDepth 1 RX11 := ⟨B.exec, B.bytes, hml, findClass_of_methodNamed B.named, hE, hLo, B.notSynchronized⟩
  have S : S2 g s σ R L s.heap [] := ⟨hWd, va_S.rf⟩
  have hx := C.1
  have hb := C.2.1
  have hl := lv_entry ([.ref (gb g + x0)]) (n := 1) (Nat.le_of_ble_eq_true rfl)
  rw [lg_entry_eq]
  generalize (lg_sl ([.ref (gb g + x0)]) ++ List.replicate (1 - (lg_sl ([.ref (gb g + x0)])).length) Slot.unset).toArray = ls at hl ⊢
  have hl : lv_has ls 1 [(0, .ref (gb g + x0))] := hl
  generalize hH : s.heap = H at S ⊢
  generalize hlc : ([] : List Loc) = locs at S ⊢
  rw [f_X11_undoDepth] at h
  refine lv_aload_n hx hb dX11_undoDepth_0 rfl (lv_at hl 0 rfl) ?_
  have hR1 : Ok 194 (R x0 1) 2 := hSh x0 11 1 2 hx0.1 rfl
  refine x_getR C S KX11 hx0 1 (by decide) rfl rfl fl_RX11_19 hR1 dX11_undoDepth_1 ?_
  refine x_getI C S KX2 hR1 2 (by decide) rfl rfl fl_RX11_338 dX11_undoDepth_4 ?_
  exact x_iret C S hr h dX11_undoDepth_7
theorem dX11_formattedByte_0 : decode cX11_formattedByte 0 = .ok (.iload_n 1, 1) := by decide +kernel
theorem dX11_formattedByte_1 : decode cX11_formattedByte 1 = .ok (.ifCond .lt 26, 3) := by decide +kernel
theorem dX11_formattedByte_4 : decode cX11_formattedByte 4 = .ok (.iload_n 1, 1) := by decide +kernel
theorem dX11_formattedByte_5 : decode cX11_formattedByte 5 = .ok (.aload_n 0, 1) := by decide +kernel
theorem dX11_formattedByte_6 : decode cX11_formattedByte 6 = .ok (.getfield 40, 3) := by decide +kernel
theorem dX11_formattedByte_9 : decode cX11_formattedByte 9 = .ok (.getfield 351, 3) := by decide +kernel
theorem dX11_formattedByte_12 : decode cX11_formattedByte 12 = .ok (.if_icmp .ge 15, 3) := by decide +kernel
theorem dX11_formattedByte_15 : decode cX11_formattedByte 15 = .ok (.aload_n 0, 1) := by decide +kernel
theorem dX11_formattedByte_16 : decode cX11_formattedByte 16 = .ok (.getfield 40, 3) := by decide +kernel
theorem dX11_formattedByte_19 : decode cX11_formattedByte 19 = .ok (.getfield 352, 3) := by decide +kernel
theorem dX11_formattedByte_22 : decode cX11_formattedByte 22 = .ok (.iload_n 1, 1) := by decide +kernel
theorem dX11_formattedByte_23 : decode cX11_formattedByte 23 = .ok (.baload, 1) := by decide +kernel
theorem dX11_formattedByte_24 : decode cX11_formattedByte 24 = .ok (.goto 4, 3) := by decide +kernel
theorem dX11_formattedByte_27 : decode cX11_formattedByte 27 = .ok (.iconst (-1), 1) := by decide +kernel
theorem dX11_formattedByte_28 : decode cX11_formattedByte 28 = .ok (.ireturn, 1) := by decide +kernel
def f_X11_formattedByte (N : Nat) (R : Nat → Nat → Nat) (σ : SI) (x0 : Nat) (x1 : Int32) : Option (Int32 × SI) := if x1 < 0 then (some ((-1 : Int32), σ)) else (if (σ (R x0 4) 1) ≤ x1 then (some ((-1 : Int32), σ)) else (ck x1 40 (some (σ (R (R x0 4) 0) x1.toNatClampNeg, σ))))
set_option maxHeartbeats 4000000 in
set_option maxRecDepth 100000 in
theorem ok_X11_formattedByte {l : Launch} {g : GL} {R : Nat → Nat → Nat} {L : Nat → Nat → Int64} {N : Nat} {σ : SI} {x0 : Nat} {x1 : Int32} {r : (Int32 × SI)} (h : f_X11_formattedByte N R σ x0 x1 = some r) (hSh : ShR R) (hx0 : Ok 194 x0 11) : Ct l g 1 yX11_formattedByte cX11_formattedByte 2 (some .int) 194 194 0 0 [.ref (gb g + x0), .int x1] (mkS σ R L) (PI R L r) := by
  refine Met.ofW (cc := cX11_formattedByte) (maxL := 2) (ret := (some .int)) (by decide) rfl ?_
  intro p e s m args below meth c s₁ B hml hv
  obtain ⟨rfl, hE, hLo, hWd⟩ := hv
  have hr : meth.sig.returnType = (some .int) := B.returns
  have C : Cx l g p s m meth c cX11_formattedByte 2 RX11 := ⟨B.exec, B.bytes, hml, findClass_of_methodNamed B.named, hE, hLo, B.notSynchronized⟩
  have S : S2 g s σ R L s.heap [] := ⟨hWd, va_S.rf⟩
  have hx := C.1
  have hb := C.2.1
  have hl := lv_entry ([.ref (gb g + x0), .int x1]) (n := 2) (Nat.le_of_ble_eq_true rfl)
  rw [lg_entry_eq]
  generalize (lg_sl ([.ref (gb g + x0), .int x1]) ++ List.replicate (2 - (lg_sl ([.ref (gb g + x0), .int x1])).length) Slot.unset).toArray = ls at hl ⊢
  have hl : lv_has ls 2 [(0, .ref (gb g + x0)), (1, .int x1)] := hl
  generalize hH : s.heap = H at S ⊢
  generalize hlc : ([] : List Loc) = locs at S ⊢
  rw [f_X11_formattedByte] at h
  refine lv_iload_n hx hb dX11_formattedByte_0 rfl (lv_at hl 1 rfl) ?_
  refine lv_if_lt (tgt := 27) hx hb dX11_formattedByte_1 (by decide) (fun c1 => ?_) (fun c1 => ?_)
  · have h := it_p c1 h
    refine lv_iconst (v := (-1 : Int32)) hx hb dX11_formattedByte_27 (by decide) ?_
    exact x_iret C S hr h dX11_formattedByte_28
  · have h := it_n c1 h
    refine lv_iload_n hx hb dX11_formattedByte_4 rfl (lv_at hl 1 rfl) ?_
    refine lv_aload_n hx hb dX11_formattedByte_5 rfl (lv_at hl 0 rfl) ?_
    have hR2 : Ok 194 (R x0 4) 1 := hSh x0 11 4 1 hx0.1 rfl
    refine x_getR C S KX11 hx0 4 (by decide) rfl rfl fl_RX11_40 hR2 dX11_formattedByte_6 ?_
    refine x_getI C S KX1 hR2 1 (by decide) rfl rfl fl_RX11_351 dX11_formattedByte_9 ?_
    refine lv_icmp_ge (tgt := 27) hx hb dX11_formattedByte_12 (by decide) (fun c3 => ?_) (fun c3 => ?_)
    · have h := it_p c3 h
      refine lv_iconst (v := (-1 : Int32)) hx hb dX11_formattedByte_27 (by decide) ?_
      exact x_iret C S hr h dX11_formattedByte_28
    · have h := it_n c3 h
      refine lv_aload_n hx hb dX11_formattedByte_15 rfl (lv_at hl 0 rfl) ?_
      have hR4 : Ok 194 (R x0 4) 1 := hSh x0 11 4 1 hx0.1 rfl
      refine x_getR C S KX11 hx0 4 (by decide) rfl rfl fl_RX11_40 hR4 dX11_formattedByte_16 ?_
      have hR5 : Ok 194 (R (R x0 4) 0) 20040 := hSh (R x0 4) 1 0 20040 hR4.1 rfl
      refine x_getR C S KX1 hR4 0 (by decide) rfl rfl fl_RX11_352 hR5 dX11_formattedByte_19 ?_
      refine lv_iload_n hx hb dX11_formattedByte_22 rfl (lv_at hl 1 rfl) ?_
      obtain ⟨hi6, h⟩ := ck_el h
      refine x_bald (len := 40) C S (by decide) hR5 hi6 dX11_formattedByte_23 ?_
      refine lv_goto (tgt := 28) hx hb dX11_formattedByte_24 (by decide) ?_
      exact x_iret C S hr h dX11_formattedByte_28
theorem dX11_squareSum_0 : decode cX11_squareSum 0 = .ok (.iload_n 0, 1) := by decide +kernel
theorem dX11_squareSum_1 : decode cX11_squareSum 1 = .ok (.iload_n 0, 1) := by decide +kernel
theorem dX11_squareSum_2 : decode cX11_squareSum 2 = .ok (.imul, 1) := by decide +kernel
theorem dX11_squareSum_3 : decode cX11_squareSum 3 = .ok (.iload_n 1, 1) := by decide +kernel
theorem dX11_squareSum_4 : decode cX11_squareSum 4 = .ok (.iload_n 1, 1) := by decide +kernel
theorem dX11_squareSum_5 : decode cX11_squareSum 5 = .ok (.imul, 1) := by decide +kernel
theorem dX11_squareSum_6 : decode cX11_squareSum 6 = .ok (.iadd, 1) := by decide +kernel
theorem dX11_squareSum_7 : decode cX11_squareSum 7 = .ok (.ireturn, 1) := by decide +kernel
def f_X11_squareSum (N : Nat) (R : Nat → Nat → Nat) (σ : SI) (x0 : Int32) (x1 : Int32) : Option (Int32 × SI) := some ((x0 * x0) + (x1 * x1), σ)
set_option maxHeartbeats 4000000 in
set_option maxRecDepth 100000 in
theorem ok_X11_squareSum {l : Launch} {g : GL} {R : Nat → Nat → Nat} {L : Nat → Nat → Int64} {N : Nat} {σ : SI} {x0 : Int32} {x1 : Int32} {r : (Int32 × SI)} (h : f_X11_squareSum N R σ x0 x1 = some r) (hSh : ShR R) : Ct l g 1 yX11_squareSum cX11_squareSum 2 (some .int) 194 194 0 0 [.int x0, .int x1] (mkS σ R L) (PI R L r) := by
  refine Met.ofW (cc := cX11_squareSum) (maxL := 2) (ret := (some .int)) (by decide) rfl ?_
  intro p e s m args below meth c s₁ B hml hv
  obtain ⟨rfl, hE, hLo, hWd⟩ := hv
  have hr : meth.sig.returnType = (some .int) := B.returns
  have C : Cx l g p s m meth c cX11_squareSum 2 RX11 := ⟨B.exec, B.bytes, hml, findClass_of_methodNamed B.named, hE, hLo, B.notSynchronized⟩
  have S : S2 g s σ R L s.heap [] := ⟨hWd, va_S.rf⟩
  have hx := C.1
  have hb := C.2.1
  have hl := lv_entry ([.int x0, .int x1]) (n := 2) (Nat.le_of_ble_eq_true rfl)
  rw [lg_entry_eq]
  generalize (lg_sl ([.int x0, .int x1]) ++ List.replicate (2 - (lg_sl ([.int x0, .int x1])).length) Slot.unset).toArray = ls at hl ⊢
  have hl : lv_has ls 2 [(0, .int x0), (1, .int x1)] := hl
  generalize hH : s.heap = H at S ⊢
  generalize hlc : ([] : List Loc) = locs at S ⊢
  rw [f_X11_squareSum] at h
  refine lv_iload_n hx hb dX11_squareSum_0 rfl (lv_at hl 0 rfl) ?_
  refine lv_iload_n hx hb dX11_squareSum_1 rfl (lv_at hl 0 rfl) ?_
  refine lv_imul hx hb dX11_squareSum_2 ?_
  refine lv_iload_n hx hb dX11_squareSum_3 rfl (lv_at hl 1 rfl) ?_
  refine lv_iload_n hx hb dX11_squareSum_4 rfl (lv_at hl 1 rfl) ?_
  refine lv_imul hx hb dX11_squareSum_5 ?_
  refine lv_iadd hx hb dX11_squareSum_6 ?_
  exact x_iret C S hr h dX11_squareSum_7
theorem dX11_quotient_0 : decode cX11_quotient 0 = .ok (.iload_n 1, 1) := by decide +kernel
theorem dX11_quotient_1 : decode cX11_quotient 1 = .ok (.ifCond .ne 7, 3) := by decide +kernel
theorem dX11_quotient_4 : decode cX11_quotient 4 = .ok (.iconst 0, 1) := by decide +kernel
theorem dX11_quotient_5 : decode cX11_quotient 5 = .ok (.goto 6, 3) := by decide +kernel
theorem dX11_quotient_8 : decode cX11_quotient 8 = .ok (.iload_n 0, 1) := by decide +kernel
theorem dX11_quotient_9 : decode cX11_quotient 9 = .ok (.iload_n 1, 1) := by decide +kernel
theorem dX11_quotient_10 : decode cX11_quotient 10 = .ok (.idiv, 1) := by decide +kernel
theorem dX11_quotient_11 : decode cX11_quotient 11 = .ok (.ireturn, 1) := by decide +kernel
def f_X11_quotient (N : Nat) (R : Nat → Nat → Nat) (σ : SI) (x0 : Int32) (x1 : Int32) : Option (Int32 × SI) := if x1 = 0 then (some ((0 : Int32), σ)) else (cd x1 (some (x0 / x1, σ)))
set_option maxHeartbeats 4000000 in
set_option maxRecDepth 100000 in
theorem ok_X11_quotient {l : Launch} {g : GL} {R : Nat → Nat → Nat} {L : Nat → Nat → Int64} {N : Nat} {σ : SI} {x0 : Int32} {x1 : Int32} {r : (Int32 × SI)} (h : f_X11_quotient N R σ x0 x1 = some r) (hSh : ShR R) : Ct l g 1 yX11_quotient cX11_quotient 2 (some .int) 194 194 0 0 [.int x0, .int x1] (mkS σ R L) (PI R L r) := by
  refine Met.ofW (cc := cX11_quotient) (maxL := 2) (ret := (some .int)) (by decide) rfl ?_
  intro p e s m args below meth c s₁ B hml hv
  obtain ⟨rfl, hE, hLo, hWd⟩ := hv
  have hr : meth.sig.returnType = (some .int) := B.returns
  have C : Cx l g p s m meth c cX11_quotient 2 RX11 := ⟨B.exec, B.bytes, hml, findClass_of_methodNamed B.named, hE, hLo, B.notSynchronized⟩
  have S : S2 g s σ R L s.heap [] := ⟨hWd, va_S.rf⟩
  have hx := C.1
  have hb := C.2.1
  have hl := lv_entry ([.int x0, .int x1]) (n := 2) (Nat.le_of_ble_eq_true rfl)
  rw [lg_entry_eq]
  generalize (lg_sl ([.int x0, .int x1]) ++ List.replicate (2 - (lg_sl ([.int x0, .int x1])).length) Slot.unset).toArray = ls at hl ⊢
  have hl : lv_has ls 2 [(0, .int x0), (1, .int x1)] := hl
  generalize hH : s.heap = H at S ⊢
  generalize hlc : ([] : List Loc) = locs at S ⊢
  rw [f_X11_quotient] at h
  refine lv_iload_n hx hb dX11_quotient_0 rfl (lv_at hl 1 rfl) ?_
  refine lv_if_ne (tgt := 8) hx hb dX11_quotient_1 (by decide) (fun c1 => ?_) (fun c1 => ?_)
  · have h := it_n c1 h
    refine lv_iload_n hx hb dX11_quotient_8 rfl (lv_at hl 0 rfl) ?_
    refine lv_iload_n hx hb dX11_quotient_9 rfl (lv_at hl 1 rfl) ?_
    obtain ⟨hz2, h⟩ := cd_el h
    refine lv_idiv hx hb dX11_quotient_10 hz2 ?_
    exact x_iret C S hr h dX11_quotient_11
  · have h := it_p c1 h
    refine lv_iconst (v := (0 : Int32)) hx hb dX11_quotient_4 (by decide) ?_
    refine lv_goto (tgt := 11) hx hb dX11_quotient_5 (by decide) ?_
    exact x_iret C S hr h dX11_quotient_11
theorem dX12_thrown_0 : decode cX12_thrown 0 = .ok (.aload_n 0, 1) := by decide +kernel
theorem dX12_thrown_1 : decode cX12_thrown 1 = .ok (.getfield 3, 3) := by decide +kernel
theorem dX12_thrown_4 : decode cX12_thrown 4 = .ok (.ireturn, 1) := by decide +kernel
def f_X12_thrown (N : Nat) (R : Nat → Nat → Nat) (σ : SI) (x0 : Nat) : Option (Int32 × SI) := some (σ x0 0, σ)
set_option maxHeartbeats 4000000 in
set_option maxRecDepth 100000 in
theorem ok_X12_thrown {l : Launch} {g : GL} {R : Nat → Nat → Nat} {L : Nat → Nat → Int64} {N : Nat} {σ : SI} {x0 : Nat} {r : (Int32 × SI)} (h : f_X12_thrown N R σ x0 = some r) (hSh : ShR R) (hx0 : Ok 194 x0 12) : Ct l g 1 yX12_thrown cX12_thrown 1 (some .int) 194 194 0 0 [.ref (gb g + x0)] (mkS σ R L) (PI R L r) := by
  refine Met.ofW (cc := cX12_thrown) (maxL := 1) (ret := (some .int)) (by decide) rfl ?_
  intro p e s m args below meth c s₁ B hml hv
  obtain ⟨rfl, hE, hLo, hWd⟩ := hv
  have hr : meth.sig.returnType = (some .int) := B.returns
  have C : Cx l g p s m meth c cX12_thrown 1 RX12 := ⟨B.exec, B.bytes, hml, findClass_of_methodNamed B.named, hE, hLo, B.notSynchronized⟩
  have S : S2 g s σ R L s.heap [] := ⟨hWd, va_S.rf⟩
  have hx := C.1
  have hb := C.2.1
  have hl := lv_entry ([.ref (gb g + x0)]) (n := 1) (Nat.le_of_ble_eq_true rfl)
  rw [lg_entry_eq]
  generalize (lg_sl ([.ref (gb g + x0)]) ++ List.replicate (1 - (lg_sl ([.ref (gb g + x0)])).length) Slot.unset).toArray = ls at hl ⊢
  have hl : lv_has ls 1 [(0, .ref (gb g + x0))] := hl
  generalize hH : s.heap = H at S ⊢
  generalize hlc : ([] : List Loc) = locs at S ⊢
  rw [f_X12_thrown] at h
  refine lv_aload_n hx hb dX12_thrown_0 rfl (lv_at hl 0 rfl) ?_
  refine x_getI C S KX12 hx0 0 (by decide) rfl rfl fl_RX12_3 dX12_thrown_1 ?_
  exact x_iret C S hr h dX12_thrown_4
theorem dX12_throwsIf_0 : decode cX12_throwsIf 0 = .ok (.iload_n 1, 1) := by decide +kernel
theorem dX12_throwsIf_1 : decode cX12_throwsIf 1 = .ok (.ifCond .eq 8, 3) := by decide +kernel
theorem dX12_throwsIf_4 : decode cX12_throwsIf 4 = .ok (.aload_n 0, 1) := by decide +kernel
theorem dX12_throwsIf_5 : decode cX12_throwsIf 5 = .ok (.iload_n 2, 1) := by decide +kernel
theorem dX12_throwsIf_6 : decode cX12_throwsIf 6 = .ok (.putfield 3, 3) := by decide +kernel
theorem dX12_throwsIf_9 : decode cX12_throwsIf 9 = .ok (.iload_n 1, 1) := by decide +kernel
theorem dX12_throwsIf_10 : decode cX12_throwsIf 10 = .ok (.ireturn, 1) := by decide +kernel
def f_X12_throwsIf (N : Nat) (R : Nat → Nat → Nat) (σ : SI) (x0 : Nat) (x1 : Int32) (x2 : Int32) : Option (Int32 × SI) := if x1 = 0 then (cb x1 (some (x1, σ))) else (sq (up σ x0 0 x2) (fun σ3 => cb x1 (some (x1, σ3))))
set_option maxHeartbeats 4000000 in
set_option maxRecDepth 100000 in
theorem ok_X12_throwsIf {l : Launch} {g : GL} {R : Nat → Nat → Nat} {L : Nat → Nat → Int64} {N : Nat} {σ : SI} {x0 : Nat} {x1 : Int32} {x2 : Int32} {r : (Int32 × SI)} (h : f_X12_throwsIf N R σ x0 x1 x2 = some r) (hSh : ShR R) (hx0 : Ok 194 x0 12) : Ct l g 1 yX12_throwsIf cX12_throwsIf 3 (some .boolean) 194 194 0 0 [.ref (gb g + x0), .int x1, .int x2] (mkS σ R L) (PI R L r) := by
  refine Met.ofW (cc := cX12_throwsIf) (maxL := 3) (ret := (some .boolean)) (by decide) rfl ?_
  intro p e s m args below meth c s₁ B hml hv
  obtain ⟨rfl, hE, hLo, hWd⟩ := hv
  have hr : meth.sig.returnType = (some .boolean) := B.returns
  have C : Cx l g p s m meth c cX12_throwsIf 3 RX12 := ⟨B.exec, B.bytes, hml, findClass_of_methodNamed B.named, hE, hLo, B.notSynchronized⟩
  have S : S2 g s σ R L s.heap [] := ⟨hWd, va_S.rf⟩
  have hx := C.1
  have hb := C.2.1
  have hl := lv_entry ([.ref (gb g + x0), .int x1, .int x2]) (n := 3) (Nat.le_of_ble_eq_true rfl)
  rw [lg_entry_eq]
  generalize (lg_sl ([.ref (gb g + x0), .int x1, .int x2]) ++ List.replicate (3 - (lg_sl ([.ref (gb g + x0), .int x1, .int x2])).length) Slot.unset).toArray = ls at hl ⊢
  have hl : lv_has ls 3 [(0, .ref (gb g + x0)), (1, .int x1), (2, .int x2)] := hl
  generalize hH : s.heap = H at S ⊢
  generalize hlc : ([] : List Loc) = locs at S ⊢
  rw [f_X12_throwsIf] at h
  refine lv_iload_n hx hb dX12_throwsIf_0 rfl (lv_at hl 1 rfl) ?_
  refine lv_if_eq (tgt := 9) hx hb dX12_throwsIf_1 (by decide) (fun c1 => ?_) (fun c1 => ?_)
  · have h := it_p c1 h
    refine lv_iload_n hx hb dX12_throwsIf_9 rfl (lv_at hl 1 rfl) ?_
    obtain ⟨hb2, h⟩ := cb_el h
    exact x_zret C S hr hb2 h dX12_throwsIf_10
  · have h := it_n c1 h
    refine lv_aload_n hx hb dX12_throwsIf_4 rfl (lv_at hl 0 rfl) ?_
    refine lv_iload_n hx hb dX12_throwsIf_5 rfl (lv_at hl 2 rfl) ?_
    obtain ⟨σ3, hs3, h⟩ := sq_el h
    refine x_putI C S KX12 hx0 0 (by decide) rfl rfl rfl ⟨rfl, rfl⟩ fl_RX12_3 dX12_throwsIf_6 hs3 (fun H locs S => ?_)
    refine lv_iload_n hx hb dX12_throwsIf_9 rfl (lv_at hl 1 rfl) ?_
    obtain ⟨hb4, h⟩ := cb_el h
    exact x_zret C S hr hb4 h dX12_throwsIf_10
theorem dX12_in_0 : decode cX12_in 0 = .ok (.iload_n 0, 1) := by decide +kernel
theorem dX12_in_1 : decode cX12_in 1 = .ok (.iload_n 1, 1) := by decide +kernel
theorem dX12_in_2 : decode cX12_in 2 = .ok (.if_icmp .lt 12, 3) := by decide +kernel
theorem dX12_in_5 : decode cX12_in 5 = .ok (.iload_n 0, 1) := by decide +kernel
theorem dX12_in_6 : decode cX12_in 6 = .ok (.iload_n 2, 1) := by decide +kernel
theorem dX12_in_7 : decode cX12_in 7 = .ok (.if_icmp .gt 7, 3) := by decide +kernel
theorem dX12_in_10 : decode cX12_in 10 = .ok (.iconst 1, 1) := by decide +kernel
theorem dX12_in_11 : decode cX12_in 11 = .ok (.goto 4, 3) := by decide +kernel
theorem dX12_in_14 : decode cX12_in 14 = .ok (.iconst 0, 1) := by decide +kernel
theorem dX12_in_15 : decode cX12_in 15 = .ok (.ireturn, 1) := by decide +kernel
def f_X12_in (N : Nat) (R : Nat → Nat → Nat) (σ : SI) (x0 : Int32) (x1 : Int32) (x2 : Int32) : Option (Int32 × SI) := if x0 < x1 then (some ((0 : Int32), σ)) else (if x2 < x0 then (some ((0 : Int32), σ)) else (some ((1 : Int32), σ)))
set_option maxHeartbeats 4000000 in
set_option maxRecDepth 100000 in
theorem ok_X12_in {l : Launch} {g : GL} {R : Nat → Nat → Nat} {L : Nat → Nat → Int64} {N : Nat} {σ : SI} {x0 : Int32} {x1 : Int32} {x2 : Int32} {r : (Int32 × SI)} (h : f_X12_in N R σ x0 x1 x2 = some r) (hSh : ShR R) : Ct l g 1 yX12_in cX12_in 3 (some .boolean) 194 194 0 0 [.int x0, .int x1, .int x2] (mkS σ R L) (PI R L r) := by
  refine Met.ofW (cc := cX12_in) (maxL := 3) (ret := (some .boolean)) (by decide) rfl ?_
  intro p e s m args below meth c s₁ B hml hv
  obtain ⟨rfl, hE, hLo, hWd⟩ := hv
  have hr : meth.sig.returnType = (some .boolean) := B.returns
  have C : Cx l g p s m meth c cX12_in 3 RX12 := ⟨B.exec, B.bytes, hml, findClass_of_methodNamed B.named, hE, hLo, B.notSynchronized⟩
  have S : S2 g s σ R L s.heap [] := ⟨hWd, va_S.rf⟩
  have hx := C.1
  have hb := C.2.1
  have hl := lv_entry ([.int x0, .int x1, .int x2]) (n := 3) (Nat.le_of_ble_eq_true rfl)
  rw [lg_entry_eq]
  generalize (lg_sl ([.int x0, .int x1, .int x2]) ++ List.replicate (3 - (lg_sl ([.int x0, .int x1, .int x2])).length) Slot.unset).toArray = ls at hl ⊢
  have hl : lv_has ls 3 [(0, .int x0), (1, .int x1), (2, .int x2)] := hl
  generalize hH : s.heap = H at S ⊢
  generalize hlc : ([] : List Loc) = locs at S ⊢
  rw [f_X12_in] at h
  refine lv_iload_n hx hb dX12_in_0 rfl (lv_at hl 0 rfl) ?_
  refine lv_iload_n hx hb dX12_in_1 rfl (lv_at hl 1 rfl) ?_
  refine lv_icmp_lt (tgt := 14) hx hb dX12_in_2 (by decide) (fun c1 => ?_) (fun c1 => ?_)
  · have h := it_p c1 h
    refine lv_iconst (v := (0 : Int32)) hx hb dX12_in_14 (by decide) ?_
    exact x_zret C S hr (by decide) h dX12_in_15
  · have h := it_n c1 h
    refine lv_iload_n hx hb dX12_in_5 rfl (lv_at hl 0 rfl) ?_
    refine lv_iload_n hx hb dX12_in_6 rfl (lv_at hl 2 rfl) ?_
    refine lv_icmp_gt (tgt := 14) hx hb dX12_in_7 (by decide) (fun c2 => ?_) (fun c2 => ?_)
    · have h := it_p c2 h
      refine lv_iconst (v := (0 : Int32)) hx hb dX12_in_14 (by decide) ?_
      exact x_zret C S hr (by decide) h dX12_in_15
    · have h := it_n c2 h
      refine lv_iconst (v := (1 : Int32)) hx hb dX12_in_10 (by decide) ?_
      refine lv_goto (tgt := 15) hx hb dX12_in_11 (by decide) ?_
      exact x_zret C S hr (by decide) h dX12_in_15
theorem dX12_append_0 : decode cX12_append 0 = .ok (.aload_n 0, 1) := by decide +kernel
theorem dX12_append_1 : decode cX12_append 1 = .ok (.iconst 0, 1) := by decide +kernel
theorem dX12_append_2 : decode cX12_append 2 = .ok (.putfield 3, 3) := by decide +kernel
theorem dX12_append_5 : decode cX12_append 5 = .ok (.aload_n 0, 1) := by decide +kernel
theorem dX12_append_6 : decode cX12_append 6 = .ok (.getfield 7, 3) := by decide +kernel
theorem dX12_append_9 : decode cX12_append 9 = .ok (.bipush 20, 2) := by decide +kernel
theorem dX12_append_11 : decode cX12_append 11 = .ok (.iadd, 1) := by decide +kernel
theorem dX12_append_12 : decode cX12_append 12 = .ok (.sipush 800, 3) := by decide +kernel
theorem dX12_append_15 : decode cX12_append 15 = .ok (.if_icmp .le 5, 3) := by decide +kernel
theorem dX12_append_18 : decode cX12_append 18 = .ok (.iconst (-1), 1) := by decide +kernel
theorem dX12_append_19 : decode cX12_append 19 = .ok (.ireturn, 1) := by decide +kernel
theorem dX12_append_20 : decode cX12_append 20 = .ok (.aload_n 0, 1) := by decide +kernel
theorem dX12_append_21 : decode cX12_append 21 = .ok (.getfield 10, 3) := by decide +kernel
theorem dX12_append_24 : decode cX12_append 24 = .ok (.iconst 0, 1) := by decide +kernel
theorem dX12_append_25 : decode cX12_append 25 = .ok (.iload_n 1, 1) := by decide +kernel
theorem dX12_append_26 : decode cX12_append 26 = .ok (.iastore, 1) := by decide +kernel
theorem dX12_append_27 : decode cX12_append 27 = .ok (.aload_n 0, 1) := by decide +kernel
theorem dX12_append_28 : decode cX12_append 28 = .ok (.getfield 10, 3) := by decide +kernel
theorem dX12_append_31 : decode cX12_append 31 = .ok (.iconst 1, 1) := by decide +kernel
theorem dX12_append_32 : decode cX12_append 32 = .ok (.iload_n 2, 1) := by decide +kernel
theorem dX12_append_33 : decode cX12_append 33 = .ok (.iastore, 1) := by decide +kernel
theorem dX12_append_34 : decode cX12_append 34 = .ok (.aload_n 0, 1) := by decide +kernel
theorem dX12_append_35 : decode cX12_append 35 = .ok (.getfield 10, 3) := by decide +kernel
theorem dX12_append_38 : decode cX12_append 38 = .ok (.iconst 2, 1) := by decide +kernel
theorem dX12_append_39 : decode cX12_append 39 = .ok (.iload_n 3, 1) := by decide +kernel
theorem dX12_append_40 : decode cX12_append 40 = .ok (.iastore, 1) := by decide +kernel
theorem dX12_append_41 : decode cX12_append 41 = .ok (.aload_n 0, 1) := by decide +kernel
theorem dX12_append_42 : decode cX12_append 42 = .ok (.getfield 10, 3) := by decide +kernel
theorem dX12_append_45 : decode cX12_append 45 = .ok (.iconst 3, 1) := by decide +kernel
theorem dX12_append_46 : decode cX12_append 46 = .ok (.iload 4, 2) := by decide +kernel
theorem dX12_append_48 : decode cX12_append 48 = .ok (.iastore, 1) := by decide +kernel
theorem dX12_append_49 : decode cX12_append 49 = .ok (.aload_n 0, 1) := by decide +kernel
theorem dX12_append_50 : decode cX12_append 50 = .ok (.getfield 10, 3) := by decide +kernel
theorem dX12_append_53 : decode cX12_append 53 = .ok (.iconst 4, 1) := by decide +kernel
theorem dX12_append_54 : decode cX12_append 54 = .ok (.iload 5, 2) := by decide +kernel
theorem dX12_append_56 : decode cX12_append 56 = .ok (.iastore, 1) := by decide +kernel
theorem dX12_append_57 : decode cX12_append 57 = .ok (.iconst 0, 1) := by decide +kernel
theorem dX12_append_58 : decode cX12_append 58 = .ok (.istore 6, 2) := by decide +kernel
theorem dX12_append_60 : decode cX12_append 60 = .ok (.iload 6, 2) := by decide +kernel
theorem dX12_append_62 : decode cX12_append 62 = .ok (.bipush 20, 2) := by decide +kernel
theorem dX12_append_64 : decode cX12_append 64 = .ok (.if_icmp .ge 42, 3) := by decide +kernel
theorem dX12_append_67 : decode cX12_append 67 = .ok (.aload_n 0, 1) := by decide +kernel
theorem dX12_append_68 : decode cX12_append 68 = .ok (.getfield 14, 3) := by decide +kernel
theorem dX12_append_71 : decode cX12_append 71 = .ok (.aload_n 0, 1) := by decide +kernel
theorem dX12_append_72 : decode cX12_append 72 = .ok (.getfield 7, 3) := by decide +kernel
theorem dX12_append_75 : decode cX12_append 75 = .ok (.iload 6, 2) := by decide +kernel
theorem dX12_append_77 : decode cX12_append 77 = .ok (.iadd, 1) := by decide +kernel
theorem dX12_append_78 : decode cX12_append 78 = .ok (.aload_n 0, 1) := by decide +kernel
theorem dX12_append_79 : decode cX12_append 79 = .ok (.getfield 10, 3) := by decide +kernel
theorem dX12_append_82 : decode cX12_append 82 = .ok (.iload 6, 2) := by decide +kernel
theorem dX12_append_84 : decode cX12_append 84 = .ok (.iconst 4, 1) := by decide +kernel
theorem dX12_append_85 : decode cX12_append 85 = .ok (.idiv, 1) := by decide +kernel
theorem dX12_append_86 : decode cX12_append 86 = .ok (.iaload, 1) := by decide +kernel
theorem dX12_append_87 : decode cX12_append 87 = .ok (.bipush 24, 2) := by decide +kernel
theorem dX12_append_89 : decode cX12_append 89 = .ok (.bipush 8, 2) := by decide +kernel
theorem dX12_append_91 : decode cX12_append 91 = .ok (.iload 6, 2) := by decide +kernel
theorem dX12_append_93 : decode cX12_append 93 = .ok (.iconst 4, 1) := by decide +kernel
theorem dX12_append_94 : decode cX12_append 94 = .ok (.irem, 1) := by decide +kernel
theorem dX12_append_95 : decode cX12_append 95 = .ok (.imul, 1) := by decide +kernel
theorem dX12_append_96 : decode cX12_append 96 = .ok (.isub, 1) := by decide +kernel
theorem dX12_append_97 : decode cX12_append 97 = .ok (.ishr, 1) := by decide +kernel
theorem dX12_append_98 : decode cX12_append 98 = .ok (.i2b, 1) := by decide +kernel
theorem dX12_append_99 : decode cX12_append 99 = .ok (.bastore, 1) := by decide +kernel
theorem dX12_append_100 : decode cX12_append 100 = .ok (.iinc 6 1, 3) := by decide +kernel
theorem dX12_append_103 : decode cX12_append 103 = .ok (.goto (-43), 3) := by decide +kernel
theorem dX12_append_106 : decode cX12_append 106 = .ok (.aload_n 0, 1) := by decide +kernel
theorem dX12_append_107 : decode cX12_append 107 = .ok (.dup, 1) := by decide +kernel
theorem dX12_append_108 : decode cX12_append 108 = .ok (.getfield 7, 3) := by decide +kernel
theorem dX12_append_111 : decode cX12_append 111 = .ok (.bipush 20, 2) := by decide +kernel
theorem dX12_append_113 : decode cX12_append 113 = .ok (.iadd, 1) := by decide +kernel
theorem dX12_append_114 : decode cX12_append 114 = .ok (.putfield 7, 3) := by decide +kernel
theorem dX12_append_117 : decode cX12_append 117 = .ok (.aload_n 0, 1) := by decide +kernel
theorem dX12_append_118 : decode cX12_append 118 = .ok (.getfield 7, 3) := by decide +kernel
theorem dX12_append_121 : decode cX12_append 121 = .ok (.ireturn, 1) := by decide +kernel
def f_X12_append_60 (N : Nat) (R : Nat → Nat → Nat) : Nat → SI → Nat → Int32 → Option (Int32 × SI)
  | 0, _, _, _ => none
  | n + 1, σ, x0, x6 => if (20 : Int32) ≤ x6 then (sq (up σ x0 3 ((σ x0 3) + (20 : Int32))) (fun σ19 => some (σ19 x0 3, σ19))) else (ck (x6 / (4 : Int32)) 5 (ck ((σ x0 3) + x6) 800 (sq (up σ (R x0 1) ((σ x0 3) + x6).toNatClampNeg (vp_nar .byte (((σ (R x0 2) (x6 / (4 : Int32)).toNatClampNeg) >>> (((24 : Int32) - ((8 : Int32) * (x6 - x6 / (4 : Int32) * (4 : Int32)))) &&& 31)).toInt8.toInt32))) (fun σ24 => f_X12_append_60 N R n σ24 x0 (x6 + 1)))))
def f_X12_append (N : Nat) (R : Nat → Nat → Nat) (σ : SI) (x0 : Nat) (x1 : Int32) (x2 : Int32) (x3 : Int32) (x4 : Int32) (x5 : Int32) : Option (Int32 × SI) := sq (up σ x0 0 (0 : Int32)) (fun σ1 => if ((σ1 x0 3) + (20 : Int32)) ≤ (800 : Int32) then (ck (0 : Int32) 5 (sq (up σ1 (R x0 2) (0 : Int32).toNatClampNeg x1) (fun σ5 => ck (1 : Int32) 5 (sq (up σ5 (R x0 2) (1 : Int32).toNatClampNeg x2) (fun σ8 => ck (2 : Int32) 5 (sq (up σ8 (R x0 2) (2 : Int32).toNatClampNeg x3) (fun σ11 => ck (3 : Int32) 5 (sq (up σ11 (R x0 2) (3 : Int32).toNatClampNeg x4) (fun σ14 => ck (4 : Int32) 5 (sq (up σ14 (R x0 2) (4 : Int32).toNatClampNeg x5) (fun σ17 => f_X12_append_60 N R N σ17 x0 (0 : Int32)))))))))))) else (some ((-1 : Int32), σ1)))
set_option maxHeartbeats 4000000 in
set_option maxRecDepth 100000 in
theorem w_X12_append_60 {l : Launch} {g : GL} {p : Program} {e : Jvm.Env} {s : State} {m : MethodId} {args : Array Value} {below : List Frame} {meth : Method} {c : Code} {R : Nat → Nat → Nat} {L : Nat → Nat → Int64} {r : (Int32 × SI)} {N : Nat} (C : Cx l g p s m meth c cX12_append 7 RX12) (hr : meth.sig.returnType = (some .int)) (hSh : ShR R) : ∀ (n : Nat) (σ : SI) (x0 : Nat) (x6 : Int32), f_X12_append_60 N R n σ x0 x6 = some r → Ok 194 x0 12 → ∀ (H : Heap) (locs : List Loc) (ls : Array Slot), S2 g s σ R L H locs → lv_has ls 7 [(0, .ref (gb g + x0)), (6, .int x6)] → W p l e (rmd 1 0 0) s m args below meth c H locs 0 0 (MQ below (Qg g 194 (PI R L r)) args s 0 0 (gA g)) (F0 m 60 ls []) := by
  have hx := C.1
  have hb := C.2.1
  intro n
  induction n with
  | zero =>
    intro σ x0 x6 h
    cases (show (none : Option (Int32 × SI)) = some r from h)
  | succ n ih =>
    intro σ x0 x6 h hx0 H locs ls S hl
    rw [f_X12_append_60] at h
    refine lv_iload hx hb dX12_append_60 (lv_at hl 1 rfl) ?_
    refine lv_bipush (v := (20 : Int32)) hx hb dX12_append_62 (by decide) ?_
    refine lv_icmp_ge (tgt := 106) hx hb dX12_append_64 (by decide) (fun c18 => ?_) (fun c18 => ?_)
    · have h := it_p c18 h
      refine lv_aload_n hx hb dX12_append_106 rfl (lv_at hl 0 rfl) ?_
      refine lv_dup hx hb dX12_append_107 rfl ?_
      refine x_getI C S KX12 hx0 3 (by decide) rfl rfl fl_RX12_7 dX12_append_108 ?_
      refine lv_bipush (v := (20 : Int32)) hx hb dX12_append_111 (by decide) ?_
      refine lv_iadd hx hb dX12_append_113 ?_
      obtain ⟨σ19, hs19, h⟩ := sq_el h
      refine x_putI C S KX12 hx0 3 (by decide) rfl rfl rfl ⟨rfl, rfl⟩ fl_RX12_7 dX12_append_114 hs19 (fun H locs S => ?_)
      refine lv_aload_n hx hb dX12_append_117 rfl (lv_at hl 0 rfl) ?_
      refine x_getI C S KX12 hx0 3 (by decide) rfl rfl fl_RX12_7 dX12_append_118 ?_
      exact x_iret C S hr h dX12_append_121
    · have h := it_n c18 h
      refine lv_aload_n hx hb dX12_append_67 rfl (lv_at hl 0 rfl) ?_
      have hR20 : Ok 194 (R x0 1) 20800 := hSh x0 12 1 20800 hx0.1 rfl
      refine x_getR C S KX12 hx0 1 (by decide) rfl rfl fl_RX12_14 hR20 dX12_append_68 ?_
      refine lv_aload_n hx hb dX12_append_71 rfl (lv_at hl 0 rfl) ?_
      refine x_getI C S KX12 hx0 3 (by decide) rfl rfl fl_RX12_7 dX12_append_72 ?_
      refine lv_iload hx hb dX12_append_75 (lv_at hl 1 rfl) ?_
      refine lv_iadd hx hb dX12_append_77 ?_
      refine lv_aload_n hx hb dX12_append_78 rfl (lv_at hl 0 rfl) ?_
      have hR21 : Ok 194 (R x0 2) 10005 := hSh x0 12 2 10005 hx0.1 rfl
      refine x_getR C S KX12 hx0 2 (by decide) rfl rfl fl_RX12_10 hR21 dX12_append_79 ?_
      refine lv_iload hx hb dX12_append_82 (lv_at hl 1 rfl) ?_
      refine lv_iconst (v := (4 : Int32)) hx hb dX12_append_84 (by decide) ?_
      refine lv_idiv hx hb dX12_append_85 (by decide) ?_
      obtain ⟨hi22, h⟩ := ck_el h
      refine x_iald (len := 5) C S (by decide) hR21 hi22 dX12_append_86 ?_
      refine lv_bipush (v := (24 : Int32)) hx hb dX12_append_87 (by decide) ?_
      refine lv_bipush (v := (8 : Int32)) hx hb dX12_append_89 (by decide) ?_
      refine lv_iload hx hb dX12_append_91 (lv_at hl 1 rfl) ?_
      refine lv_iconst (v := (4 : Int32)) hx hb dX12_append_93 (by decide) ?_
      refine lv_irem hx hb dX12_append_94 (by decide) ?_
      refine lv_imul hx hb dX12_append_95 ?_
      refine lv_isub hx hb dX12_append_96 ?_
      refine lv_ishr hx hb dX12_append_97 ?_
      refine lv_i2b hx hb dX12_append_98 rfl ?_
      obtain ⟨hi23, h⟩ := ck_el h
      obtain ⟨σ24, hs24, h⟩ := sq_el h
      refine x_bast (len := 800) C S (by decide) hR20 hi23 dX12_append_99 hs24 (fun H locs S => ?_)
      refine lv_iinc (v := x6 + 1) (lv' := [(6, .int (x6 + 1)), (0, .ref (gb g + x0))]) hx hb dX12_append_100 hl (k := 1) rfl rfl (by decide) rfl (fun ls hl => ?_)
      refine lv_goto (tgt := 60) hx hb dX12_append_103 (by decide) ?_
      exact ih σ24 x0 (x6 + 1) h hx0 H locs ls S (lv_sub hl [1, 0] rfl)
set_option maxHeartbeats 4000000 in
set_option maxRecDepth 100000 in
theorem ok_X12_append {l : Launch} {g : GL} {R : Nat → Nat → Nat} {L : Nat → Nat → Int64} {N : Nat} {σ : SI} {x0 : Nat} {x1 : Int32} {x2 : Int32} {x3 : Int32} {x4 : Int32} {x5 : Int32} {r : (Int32 × SI)} (h : f_X12_append N R σ x0 x1 x2 x3 x4 x5 = some r) (hSh : ShR R) (hx0 : Ok 194 x0 12) : Ct l g 1 yX12_append cX12_append 7 (some .int) 194 194 0 0 [.ref (gb g + x0), .int x1, .int x2, .int x3, .int x4, .int x5] (mkS σ R L) (PI R L r) := by
  refine Met.ofW (cc := cX12_append) (maxL := 7) (ret := (some .int)) (by decide) rfl ?_
  intro p e s m args below meth c s₁ B hml hv
  obtain ⟨rfl, hE, hLo, hWd⟩ := hv
  have hr : meth.sig.returnType = (some .int) := B.returns
  have C : Cx l g p s m meth c cX12_append 7 RX12 := ⟨B.exec, B.bytes, hml, findClass_of_methodNamed B.named, hE, hLo, B.notSynchronized⟩
  have S : S2 g s σ R L s.heap [] := ⟨hWd, va_S.rf⟩
  have hx := C.1
  have hb := C.2.1
  have hl := lv_entry ([.ref (gb g + x0), .int x1, .int x2, .int x3, .int x4, .int x5]) (n := 7) (Nat.le_of_ble_eq_true rfl)
  rw [lg_entry_eq]
  generalize (lg_sl ([.ref (gb g + x0), .int x1, .int x2, .int x3, .int x4, .int x5]) ++ List.replicate (7 - (lg_sl ([.ref (gb g + x0), .int x1, .int x2, .int x3, .int x4, .int x5])).length) Slot.unset).toArray = ls at hl ⊢
  have hl : lv_has ls 7 [(0, .ref (gb g + x0)), (1, .int x1), (2, .int x2), (3, .int x3), (4, .int x4), (5, .int x5)] := hl
  generalize hH : s.heap = H at S ⊢
  generalize hlc : ([] : List Loc) = locs at S ⊢
  rw [f_X12_append] at h
  refine lv_aload_n hx hb dX12_append_0 rfl (lv_at hl 0 rfl) ?_
  refine lv_iconst (v := (0 : Int32)) hx hb dX12_append_1 (by decide) ?_
  obtain ⟨σ1, hs1, h⟩ := sq_el h
  refine x_putI C S KX12 hx0 0 (by decide) rfl rfl rfl ⟨rfl, rfl⟩ fl_RX12_3 dX12_append_2 hs1 (fun H locs S => ?_)
  refine lv_aload_n hx hb dX12_append_5 rfl (lv_at hl 0 rfl) ?_
  refine x_getI C S KX12 hx0 3 (by decide) rfl rfl fl_RX12_7 dX12_append_6 ?_
  refine lv_bipush (v := (20 : Int32)) hx hb dX12_append_9 (by decide) ?_
  refine lv_iadd hx hb dX12_append_11 ?_
  refine lv_sipush (v := (800 : Int32)) hx hb dX12_append_12 (by decide) ?_
  refine lv_icmp_le (tgt := 20) hx hb dX12_append_15 (by decide) (fun c2 => ?_) (fun c2 => ?_)
  · have h := it_p c2 h
    refine lv_aload_n hx hb dX12_append_20 rfl (lv_at hl 0 rfl) ?_
    have hR3 : Ok 194 (R x0 2) 10005 := hSh x0 12 2 10005 hx0.1 rfl
    refine x_getR C S KX12 hx0 2 (by decide) rfl rfl fl_RX12_10 hR3 dX12_append_21 ?_
    refine lv_iconst (v := (0 : Int32)) hx hb dX12_append_24 (by decide) ?_
    refine lv_iload_n hx hb dX12_append_25 rfl (lv_at hl 1 rfl) ?_
    obtain ⟨hi4, h⟩ := ck_el h
    obtain ⟨σ5, hs5, h⟩ := sq_el h
    refine x_iast (len := 5) C S (by decide) hR3 hi4 dX12_append_26 hs5 (fun H locs S => ?_)
    refine lv_aload_n hx hb dX12_append_27 rfl (lv_at hl 0 rfl) ?_
    have hR6 : Ok 194 (R x0 2) 10005 := hSh x0 12 2 10005 hx0.1 rfl
    refine x_getR C S KX12 hx0 2 (by decide) rfl rfl fl_RX12_10 hR6 dX12_append_28 ?_
    refine lv_iconst (v := (1 : Int32)) hx hb dX12_append_31 (by decide) ?_
    refine lv_iload_n hx hb dX12_append_32 rfl (lv_at hl 2 rfl) ?_
    obtain ⟨hi7, h⟩ := ck_el h
    obtain ⟨σ8, hs8, h⟩ := sq_el h
    refine x_iast (len := 5) C S (by decide) hR6 hi7 dX12_append_33 hs8 (fun H locs S => ?_)
    refine lv_aload_n hx hb dX12_append_34 rfl (lv_at hl 0 rfl) ?_
    have hR9 : Ok 194 (R x0 2) 10005 := hSh x0 12 2 10005 hx0.1 rfl
    refine x_getR C S KX12 hx0 2 (by decide) rfl rfl fl_RX12_10 hR9 dX12_append_35 ?_
    refine lv_iconst (v := (2 : Int32)) hx hb dX12_append_38 (by decide) ?_
    refine lv_iload_n hx hb dX12_append_39 rfl (lv_at hl 3 rfl) ?_
    obtain ⟨hi10, h⟩ := ck_el h
    obtain ⟨σ11, hs11, h⟩ := sq_el h
    refine x_iast (len := 5) C S (by decide) hR9 hi10 dX12_append_40 hs11 (fun H locs S => ?_)
    refine lv_aload_n hx hb dX12_append_41 rfl (lv_at hl 0 rfl) ?_
    have hR12 : Ok 194 (R x0 2) 10005 := hSh x0 12 2 10005 hx0.1 rfl
    refine x_getR C S KX12 hx0 2 (by decide) rfl rfl fl_RX12_10 hR12 dX12_append_42 ?_
    refine lv_iconst (v := (3 : Int32)) hx hb dX12_append_45 (by decide) ?_
    refine lv_iload hx hb dX12_append_46 (lv_at hl 4 rfl) ?_
    obtain ⟨hi13, h⟩ := ck_el h
    obtain ⟨σ14, hs14, h⟩ := sq_el h
    refine x_iast (len := 5) C S (by decide) hR12 hi13 dX12_append_48 hs14 (fun H locs S => ?_)
    refine lv_aload_n hx hb dX12_append_49 rfl (lv_at hl 0 rfl) ?_
    have hR15 : Ok 194 (R x0 2) 10005 := hSh x0 12 2 10005 hx0.1 rfl
    refine x_getR C S KX12 hx0 2 (by decide) rfl rfl fl_RX12_10 hR15 dX12_append_50 ?_
    refine lv_iconst (v := (4 : Int32)) hx hb dX12_append_53 (by decide) ?_
    refine lv_iload hx hb dX12_append_54 (lv_at hl 5 rfl) ?_
    obtain ⟨hi16, h⟩ := ck_el h
    obtain ⟨σ17, hs17, h⟩ := sq_el h
    refine x_iast (len := 5) C S (by decide) hR15 hi16 dX12_append_56 hs17 (fun H locs S => ?_)
    refine lv_iconst (v := (0 : Int32)) hx hb dX12_append_57 (by decide) ?_
    refine lv_istore (lv' := [(6, .int (0 : Int32)), (0, .ref (gb g + x0)), (1, .int x1), (2, .int x2), (3, .int x3), (4, .int x4), (5, .int x5)]) hx hb dX12_append_58 hl (by decide) rfl (fun ls hl => ?_)
    exact w_X12_append_60 C hr hSh N σ17 x0 (0 : Int32) h hx0 H locs ls S (lv_sub hl [1, 0] rfl)
  · have h := it_n c2 h
    refine lv_iconst (v := (-1 : Int32)) hx hb dX12_append_18 (by decide) ?_
    exact x_iret C S hr h dX12_append_19
theorem dX12_truncate_0 : decode cX12_truncate 0 = .ok (.aload_n 0, 1) := by decide +kernel
theorem dX12_truncate_1 : decode cX12_truncate 1 = .ok (.iconst 0, 1) := by decide +kernel
theorem dX12_truncate_2 : decode cX12_truncate 2 = .ok (.putfield 3, 3) := by decide +kernel
theorem dX12_truncate_5 : decode cX12_truncate 5 = .ok (.iload_n 1, 1) := by decide +kernel
theorem dX12_truncate_6 : decode cX12_truncate 6 = .ok (.ifCond .lt 11, 3) := by decide +kernel
theorem dX12_truncate_9 : decode cX12_truncate 9 = .ok (.iload_n 1, 1) := by decide +kernel
theorem dX12_truncate_10 : decode cX12_truncate 10 = .ok (.aload_n 0, 1) := by decide +kernel
theorem dX12_truncate_11 : decode cX12_truncate 11 = .ok (.getfield 7, 3) := by decide +kernel
theorem dX12_truncate_14 : decode cX12_truncate 14 = .ok (.if_icmp .le 5, 3) := by decide +kernel
theorem dX12_truncate_17 : decode cX12_truncate 17 = .ok (.iconst 0, 1) := by decide +kernel
theorem dX12_truncate_18 : decode cX12_truncate 18 = .ok (.ireturn, 1) := by decide +kernel
theorem dX12_truncate_19 : decode cX12_truncate 19 = .ok (.aload_n 0, 1) := by decide +kernel
theorem dX12_truncate_20 : decode cX12_truncate 20 = .ok (.iload_n 1, 1) := by decide +kernel
theorem dX12_truncate_21 : decode cX12_truncate 21 = .ok (.putfield 7, 3) := by decide +kernel
theorem dX12_truncate_24 : decode cX12_truncate 24 = .ok (.iconst 1, 1) := by decide +kernel
theorem dX12_truncate_25 : decode cX12_truncate 25 = .ok (.ireturn, 1) := by decide +kernel
def f_X12_truncate (N : Nat) (R : Nat → Nat → Nat) (σ : SI) (x0 : Nat) (x1 : Int32) : Option (Int32 × SI) := sq (up σ x0 0 (0 : Int32)) (fun σ1 => if x1 < 0 then (some ((0 : Int32), σ1)) else (if x1 ≤ (σ1 x0 3) then (sq (up σ1 x0 3 x1) (fun σ4 => some ((1 : Int32), σ4))) else (some ((0 : Int32), σ1))))
set_option maxHeartbeats 4000000 in
set_option maxRecDepth 100000 in
theorem ok_X12_truncate {l : Launch} {g : GL} {R : Nat → Nat → Nat} {L : Nat → Nat → Int64} {N : Nat} {σ : SI} {x0 : Nat} {x1 : Int32} {r : (Int32 × SI)} (h : f_X12_truncate N R σ x0 x1 = some r) (hSh : ShR R) (hx0 : Ok 194 x0 12) : Ct l g 1 yX12_truncate cX12_truncate 2 (some .boolean) 194 194 0 0 [.ref (gb g + x0), .int x1] (mkS σ R L) (PI R L r) := by
  refine Met.ofW (cc := cX12_truncate) (maxL := 2) (ret := (some .boolean)) (by decide) rfl ?_
  intro p e s m args below meth c s₁ B hml hv
  obtain ⟨rfl, hE, hLo, hWd⟩ := hv
  have hr : meth.sig.returnType = (some .boolean) := B.returns
  have C : Cx l g p s m meth c cX12_truncate 2 RX12 := ⟨B.exec, B.bytes, hml, findClass_of_methodNamed B.named, hE, hLo, B.notSynchronized⟩
  have S : S2 g s σ R L s.heap [] := ⟨hWd, va_S.rf⟩
  have hx := C.1
  have hb := C.2.1
  have hl := lv_entry ([.ref (gb g + x0), .int x1]) (n := 2) (Nat.le_of_ble_eq_true rfl)
  rw [lg_entry_eq]
  generalize (lg_sl ([.ref (gb g + x0), .int x1]) ++ List.replicate (2 - (lg_sl ([.ref (gb g + x0), .int x1])).length) Slot.unset).toArray = ls at hl ⊢
  have hl : lv_has ls 2 [(0, .ref (gb g + x0)), (1, .int x1)] := hl
  generalize hH : s.heap = H at S ⊢
  generalize hlc : ([] : List Loc) = locs at S ⊢
  rw [f_X12_truncate] at h
  refine lv_aload_n hx hb dX12_truncate_0 rfl (lv_at hl 0 rfl) ?_
  refine lv_iconst (v := (0 : Int32)) hx hb dX12_truncate_1 (by decide) ?_
  obtain ⟨σ1, hs1, h⟩ := sq_el h
  refine x_putI C S KX12 hx0 0 (by decide) rfl rfl rfl ⟨rfl, rfl⟩ fl_RX12_3 dX12_truncate_2 hs1 (fun H locs S => ?_)
  refine lv_iload_n hx hb dX12_truncate_5 rfl (lv_at hl 1 rfl) ?_
  refine lv_if_lt (tgt := 17) hx hb dX12_truncate_6 (by decide) (fun c2 => ?_) (fun c2 => ?_)
  · have h := it_p c2 h
    refine lv_iconst (v := (0 : Int32)) hx hb dX12_truncate_17 (by decide) ?_
    exact x_zret C S hr (by decide) h dX12_truncate_18
  · have h := it_n c2 h
    refine lv_iload_n hx hb dX12_truncate_9 rfl (lv_at hl 1 rfl) ?_
    refine lv_aload_n hx hb dX12_truncate_10 rfl (lv_at hl 0 rfl) ?_
    refine x_getI C S KX12 hx0 3 (by decide) rfl rfl fl_RX12_7 dX12_truncate_11 ?_
    refine lv_icmp_le (tgt := 19) hx hb dX12_truncate_14 (by decide) (fun c3 => ?_) (fun c3 => ?_)
    · have h := it_p c3 h
      refine lv_aload_n hx hb dX12_truncate_19 rfl (lv_at hl 0 rfl) ?_
      refine lv_iload_n hx hb dX12_truncate_20 rfl (lv_at hl 1 rfl) ?_
      obtain ⟨σ4, hs4, h⟩ := sq_el h
      refine x_putI C S KX12 hx0 3 (by decide) rfl rfl rfl ⟨rfl, rfl⟩ fl_RX12_7 dX12_truncate_21 hs4 (fun H locs S => ?_)
      refine lv_iconst (v := (1 : Int32)) hx hb dX12_truncate_24 (by decide) ?_
      exact x_zret C S hr (by decide) h dX12_truncate_25
    · have h := it_n c3 h
      refine lv_iconst (v := (0 : Int32)) hx hb dX12_truncate_17 (by decide) ?_
      exact x_zret C S hr (by decide) h dX12_truncate_18
theorem dX12_errorOffset_0 : decode cX12_errorOffset 0 = .ok (.aload_n 0, 1) := by decide +kernel
theorem dX12_errorOffset_1 : decode cX12_errorOffset 1 = .ok (.iconst 0, 1) := by decide +kernel
theorem dX12_errorOffset_2 : decode cX12_errorOffset 2 = .ok (.putfield 3, 3) := by decide +kernel
theorem dX12_errorOffset_5 : decode cX12_errorOffset 5 = .ok (.aload_n 0, 1) := by decide +kernel
theorem dX12_errorOffset_6 : decode cX12_errorOffset 6 = .ok (.getfield 18, 3) := by decide +kernel
theorem dX12_errorOffset_9 : decode cX12_errorOffset 9 = .ok (.ireturn, 1) := by decide +kernel
def f_X12_errorOffset (N : Nat) (R : Nat → Nat → Nat) (σ : SI) (x0 : Nat) : Option (Int32 × SI) := sq (up σ x0 0 (0 : Int32)) (fun σ1 => some (σ1 x0 9, σ1))
set_option maxHeartbeats 4000000 in
set_option maxRecDepth 100000 in
theorem ok_X12_errorOffset {l : Launch} {g : GL} {R : Nat → Nat → Nat} {L : Nat → Nat → Int64} {N : Nat} {σ : SI} {x0 : Nat} {r : (Int32 × SI)} (h : f_X12_errorOffset N R σ x0 = some r) (hSh : ShR R) (hx0 : Ok 194 x0 12) : Ct l g 1 yX12_errorOffset cX12_errorOffset 1 (some .int) 194 194 0 0 [.ref (gb g + x0)] (mkS σ R L) (PI R L r) := by
  refine Met.ofW (cc := cX12_errorOffset) (maxL := 1) (ret := (some .int)) (by decide) rfl ?_
  intro p e s m args below meth c s₁ B hml hv
  obtain ⟨rfl, hE, hLo, hWd⟩ := hv
  have hr : meth.sig.returnType = (some .int) := B.returns
  have C : Cx l g p s m meth c cX12_errorOffset 1 RX12 := ⟨B.exec, B.bytes, hml, findClass_of_methodNamed B.named, hE, hLo, B.notSynchronized⟩
  have S : S2 g s σ R L s.heap [] := ⟨hWd, va_S.rf⟩
  have hx := C.1
  have hb := C.2.1
  have hl := lv_entry ([.ref (gb g + x0)]) (n := 1) (Nat.le_of_ble_eq_true rfl)
  rw [lg_entry_eq]
  generalize (lg_sl ([.ref (gb g + x0)]) ++ List.replicate (1 - (lg_sl ([.ref (gb g + x0)])).length) Slot.unset).toArray = ls at hl ⊢
  have hl : lv_has ls 1 [(0, .ref (gb g + x0))] := hl
  generalize hH : s.heap = H at S ⊢
  generalize hlc : ([] : List Loc) = locs at S ⊢
  rw [f_X12_errorOffset] at h
  refine lv_aload_n hx hb dX12_errorOffset_0 rfl (lv_at hl 0 rfl) ?_
  refine lv_iconst (v := (0 : Int32)) hx hb dX12_errorOffset_1 (by decide) ?_
  obtain ⟨σ1, hs1, h⟩ := sq_el h
  refine x_putI C S KX12 hx0 0 (by decide) rfl rfl rfl ⟨rfl, rfl⟩ fl_RX12_3 dX12_errorOffset_2 hs1 (fun H locs S => ?_)
  refine lv_aload_n hx hb dX12_errorOffset_5 rfl (lv_at hl 0 rfl) ?_
  refine x_getI C S KX12 hx0 9 (by decide) rfl rfl fl_RX12_18 dX12_errorOffset_6 ?_
  exact x_iret C S hr h dX12_errorOffset_9
theorem dX12_errorKind_0 : decode cX12_errorKind 0 = .ok (.aload_n 0, 1) := by decide +kernel
theorem dX12_errorKind_1 : decode cX12_errorKind 1 = .ok (.iconst 0, 1) := by decide +kernel
theorem dX12_errorKind_2 : decode cX12_errorKind 2 = .ok (.putfield 3, 3) := by decide +kernel
theorem dX12_errorKind_5 : decode cX12_errorKind 5 = .ok (.aload_n 0, 1) := by decide +kernel
theorem dX12_errorKind_6 : decode cX12_errorKind 6 = .ok (.getfield 21, 3) := by decide +kernel
theorem dX12_errorKind_9 : decode cX12_errorKind 9 = .ok (.ireturn, 1) := by decide +kernel
def f_X12_errorKind (N : Nat) (R : Nat → Nat → Nat) (σ : SI) (x0 : Nat) : Option (Int32 × SI) := sq (up σ x0 0 (0 : Int32)) (fun σ1 => some (σ1 x0 10, σ1))
set_option maxHeartbeats 4000000 in
set_option maxRecDepth 100000 in
theorem ok_X12_errorKind {l : Launch} {g : GL} {R : Nat → Nat → Nat} {L : Nat → Nat → Int64} {N : Nat} {σ : SI} {x0 : Nat} {r : (Int32 × SI)} (h : f_X12_errorKind N R σ x0 = some r) (hSh : ShR R) (hx0 : Ok 194 x0 12) : Ct l g 1 yX12_errorKind cX12_errorKind 1 (some .int) 194 194 0 0 [.ref (gb g + x0)] (mkS σ R L) (PI R L r) := by
  refine Met.ofW (cc := cX12_errorKind) (maxL := 1) (ret := (some .int)) (by decide) rfl ?_
  intro p e s m args below meth c s₁ B hml hv
  obtain ⟨rfl, hE, hLo, hWd⟩ := hv
  have hr : meth.sig.returnType = (some .int) := B.returns
  have C : Cx l g p s m meth c cX12_errorKind 1 RX12 := ⟨B.exec, B.bytes, hml, findClass_of_methodNamed B.named, hE, hLo, B.notSynchronized⟩
  have S : S2 g s σ R L s.heap [] := ⟨hWd, va_S.rf⟩
  have hx := C.1
  have hb := C.2.1
  have hl := lv_entry ([.ref (gb g + x0)]) (n := 1) (Nat.le_of_ble_eq_true rfl)
  rw [lg_entry_eq]
  generalize (lg_sl ([.ref (gb g + x0)]) ++ List.replicate (1 - (lg_sl ([.ref (gb g + x0)])).length) Slot.unset).toArray = ls at hl ⊢
  have hl : lv_has ls 1 [(0, .ref (gb g + x0))] := hl
  generalize hH : s.heap = H at S ⊢
  generalize hlc : ([] : List Loc) = locs at S ⊢
  rw [f_X12_errorKind] at h
  refine lv_aload_n hx hb dX12_errorKind_0 rfl (lv_at hl 0 rfl) ?_
  refine lv_iconst (v := (0 : Int32)) hx hb dX12_errorKind_1 (by decide) ?_
  obtain ⟨σ1, hs1, h⟩ := sq_el h
  refine x_putI C S KX12 hx0 0 (by decide) rfl rfl rfl ⟨rfl, rfl⟩ fl_RX12_3 dX12_errorKind_2 hs1 (fun H locs S => ?_)
  refine lv_aload_n hx hb dX12_errorKind_5 rfl (lv_at hl 0 rfl) ?_
  refine x_getI C S KX12 hx0 10 (by decide) rfl rfl fl_RX12_21 dX12_errorKind_6 ?_
  exact x_iret C S hr h dX12_errorKind_9
theorem dX12_hasFailed_0 : decode cX12_hasFailed 0 = .ok (.aload_n 0, 1) := by decide +kernel
theorem dX12_hasFailed_1 : decode cX12_hasFailed 1 = .ok (.getfield 24, 3) := by decide +kernel
theorem dX12_hasFailed_4 : decode cX12_hasFailed 4 = .ok (.iconst (-1), 1) := by decide +kernel
theorem dX12_hasFailed_5 : decode cX12_hasFailed 5 = .ok (.if_icmp .eq 7, 3) := by decide +kernel
theorem dX12_hasFailed_8 : decode cX12_hasFailed 8 = .ok (.iconst 1, 1) := by decide +kernel
theorem dX12_hasFailed_9 : decode cX12_hasFailed 9 = .ok (.goto 4, 3) := by decide +kernel
theorem dX12_hasFailed_12 : decode cX12_hasFailed 12 = .ok (.iconst 0, 1) := by decide +kernel
theorem dX12_hasFailed_13 : decode cX12_hasFailed 13 = .ok (.ireturn, 1) := by decide +kernel
def f_X12_hasFailed (N : Nat) (R : Nat → Nat → Nat) (σ : SI) (x0 : Nat) : Option (Int32 × SI) := if (σ x0 7) = (-1 : Int32) then (some ((0 : Int32), σ)) else (some ((1 : Int32), σ))
set_option maxHeartbeats 4000000 in
set_option maxRecDepth 100000 in
theorem ok_X12_hasFailed {l : Launch} {g : GL} {R : Nat → Nat → Nat} {L : Nat → Nat → Int64} {N : Nat} {σ : SI} {x0 : Nat} {r : (Int32 × SI)} (h : f_X12_hasFailed N R σ x0 = some r) (hSh : ShR R) (hx0 : Ok 194 x0 12) : Ct l g 1 yX12_hasFailed cX12_hasFailed 1 (some .boolean) 194 194 0 0 [.ref (gb g + x0)] (mkS σ R L) (PI R L r) := by
  refine Met.ofW (cc := cX12_hasFailed) (maxL := 1) (ret := (some .boolean)) (by decide) rfl ?_
  intro p e s m args below meth c s₁ B hml hv
  obtain ⟨rfl, hE, hLo, hWd⟩ := hv
  have hr : meth.sig.returnType = (some .boolean) := B.returns
  have C : Cx l g p s m meth c cX12_hasFailed 1 RX12 := ⟨B.exec, B.bytes, hml, findClass_of_methodNamed B.named, hE, hLo, B.notSynchronized⟩
  have S : S2 g s σ R L s.heap [] := ⟨hWd, va_S.rf⟩
  have hx := C.1
  have hb := C.2.1
  have hl := lv_entry ([.ref (gb g + x0)]) (n := 1) (Nat.le_of_ble_eq_true rfl)
  rw [lg_entry_eq]
  generalize (lg_sl ([.ref (gb g + x0)]) ++ List.replicate (1 - (lg_sl ([.ref (gb g + x0)])).length) Slot.unset).toArray = ls at hl ⊢
  have hl : lv_has ls 1 [(0, .ref (gb g + x0))] := hl
  generalize hH : s.heap = H at S ⊢
  generalize hlc : ([] : List Loc) = locs at S ⊢
  rw [f_X12_hasFailed] at h
  refine lv_aload_n hx hb dX12_hasFailed_0 rfl (lv_at hl 0 rfl) ?_
  refine x_getI C S KX12 hx0 7 (by decide) rfl rfl fl_RX12_24 dX12_hasFailed_1 ?_
  refine lv_iconst (v := (-1 : Int32)) hx hb dX12_hasFailed_4 (by decide) ?_
  refine lv_icmp_eq (tgt := 12) hx hb dX12_hasFailed_5 (by decide) (fun c1 => ?_) (fun c1 => ?_)
  · have h := it_p c1 h
    refine lv_iconst (v := (0 : Int32)) hx hb dX12_hasFailed_12 (by decide) ?_
    exact x_zret C S hr (by decide) h dX12_hasFailed_13
  · have h := it_n c1 h
    refine lv_iconst (v := (1 : Int32)) hx hb dX12_hasFailed_8 (by decide) ?_
    refine lv_goto (tgt := 13) hx hb dX12_hasFailed_9 (by decide) ?_
    exact x_zret C S hr (by decide) h dX12_hasFailed_13
theorem dX12_isAt_0 : decode cX12_isAt 0 = .ok (.aload_n 0, 1) := by decide +kernel
theorem dX12_isAt_1 : decode cX12_isAt 1 = .ok (.getfield 27, 3) := by decide +kernel
theorem dX12_isAt_4 : decode cX12_isAt 4 = .ok (.aload_n 0, 1) := by decide +kernel
theorem dX12_isAt_5 : decode cX12_isAt 5 = .ok (.getfield 30, 3) := by decide +kernel
theorem dX12_isAt_8 : decode cX12_isAt 8 = .ok (.if_icmp .ge 33, 3) := by decide +kernel
theorem dX12_isAt_11 : decode cX12_isAt 11 = .ok (.aload_n 0, 1) := by decide +kernel
theorem dX12_isAt_12 : decode cX12_isAt 12 = .ok (.getfield 14, 3) := by decide +kernel
theorem dX12_isAt_15 : decode cX12_isAt 15 = .ok (.aload_n 0, 1) := by decide +kernel
theorem dX12_isAt_16 : decode cX12_isAt 16 = .ok (.getfield 27, 3) := by decide +kernel
theorem dX12_isAt_19 : decode cX12_isAt 19 = .ok (.baload, 1) := by decide +kernel
theorem dX12_isAt_20 : decode cX12_isAt 20 = .ok (.iload_n 1, 1) := by decide +kernel
theorem dX12_isAt_21 : decode cX12_isAt 21 = .ok (.if_icmp .lt 20, 3) := by decide +kernel
theorem dX12_isAt_24 : decode cX12_isAt 24 = .ok (.aload_n 0, 1) := by decide +kernel
theorem dX12_isAt_25 : decode cX12_isAt 25 = .ok (.getfield 14, 3) := by decide +kernel
theorem dX12_isAt_28 : decode cX12_isAt 28 = .ok (.aload_n 0, 1) := by decide +kernel
theorem dX12_isAt_29 : decode cX12_isAt 29 = .ok (.getfield 27, 3) := by decide +kernel
theorem dX12_isAt_32 : decode cX12_isAt 32 = .ok (.baload, 1) := by decide +kernel
theorem dX12_isAt_33 : decode cX12_isAt 33 = .ok (.iload_n 2, 1) := by decide +kernel
theorem dX12_isAt_34 : decode cX12_isAt 34 = .ok (.if_icmp .gt 7, 3) := by decide +kernel
theorem dX12_isAt_37 : decode cX12_isAt 37 = .ok (.iconst 1, 1) := by decide +kernel
theorem dX12_isAt_38 : decode cX12_isAt 38 = .ok (.goto 4, 3) := by decide +kernel
theorem dX12_isAt_41 : decode cX12_isAt 41 = .ok (.iconst 0, 1) := by decide +kernel
theorem dX12_isAt_42 : decode cX12_isAt 42 = .ok (.ireturn, 1) := by decide +kernel
def f_X12_isAt (N : Nat) (R : Nat → Nat → Nat) (σ : SI) (x0 : Nat) (x1 : Int32) (x2 : Int32) : Option (Int32 × SI) := if (σ x0 6) ≤ (σ x0 4) then (some ((0 : Int32), σ)) else (ck (σ x0 4) 800 (if (σ (R x0 1) (σ x0 4).toNatClampNeg) < x1 then (some ((0 : Int32), σ)) else (ck (σ x0 4) 800 (if x2 < (σ (R x0 1) (σ x0 4).toNatClampNeg) then (some ((0 : Int32), σ)) else (some ((1 : Int32), σ))))))
set_option maxHeartbeats 4000000 in
set_option maxRecDepth 100000 in
theorem ok_X12_isAt {l : Launch} {g : GL} {R : Nat → Nat → Nat} {L : Nat → Nat → Int64} {N : Nat} {σ : SI} {x0 : Nat} {x1 : Int32} {x2 : Int32} {r : (Int32 × SI)} (h : f_X12_isAt N R σ x0 x1 x2 = some r) (hSh : ShR R) (hx0 : Ok 194 x0 12) : Ct l g 1 yX12_isAt cX12_isAt 3 (some .boolean) 194 194 0 0 [.ref (gb g + x0), .int x1, .int x2] (mkS σ R L) (PI R L r) := by
  refine Met.ofW (cc := cX12_isAt) (maxL := 3) (ret := (some .boolean)) (by decide) rfl ?_
  intro p e s m args below meth c s₁ B hml hv
  obtain ⟨rfl, hE, hLo, hWd⟩ := hv
  have hr : meth.sig.returnType = (some .boolean) := B.returns
  have C : Cx l g p s m meth c cX12_isAt 3 RX12 := ⟨B.exec, B.bytes, hml, findClass_of_methodNamed B.named, hE, hLo, B.notSynchronized⟩
  have S : S2 g s σ R L s.heap [] := ⟨hWd, va_S.rf⟩
  have hx := C.1
  have hb := C.2.1
  have hl := lv_entry ([.ref (gb g + x0), .int x1, .int x2]) (n := 3) (Nat.le_of_ble_eq_true rfl)
  rw [lg_entry_eq]
  generalize (lg_sl ([.ref (gb g + x0), .int x1, .int x2]) ++ List.replicate (3 - (lg_sl ([.ref (gb g + x0), .int x1, .int x2])).length) Slot.unset).toArray = ls at hl ⊢
  have hl : lv_has ls 3 [(0, .ref (gb g + x0)), (1, .int x1), (2, .int x2)] := hl
  generalize hH : s.heap = H at S ⊢
  generalize hlc : ([] : List Loc) = locs at S ⊢
  rw [f_X12_isAt] at h
  refine lv_aload_n hx hb dX12_isAt_0 rfl (lv_at hl 0 rfl) ?_
  refine x_getI C S KX12 hx0 4 (by decide) rfl rfl fl_RX12_27 dX12_isAt_1 ?_
  refine lv_aload_n hx hb dX12_isAt_4 rfl (lv_at hl 0 rfl) ?_
  refine x_getI C S KX12 hx0 6 (by decide) rfl rfl fl_RX12_30 dX12_isAt_5 ?_
  refine lv_icmp_ge (tgt := 41) hx hb dX12_isAt_8 (by decide) (fun c1 => ?_) (fun c1 => ?_)
  · have h := it_p c1 h
    refine lv_iconst (v := (0 : Int32)) hx hb dX12_isAt_41 (by decide) ?_
    exact x_zret C S hr (by decide) h dX12_isAt_42
  · have h := it_n c1 h
    refine lv_aload_n hx hb dX12_isAt_11 rfl (lv_at hl 0 rfl) ?_
    have hR2 : Ok 194 (R x0 1) 20800 := hSh x0 12 1 20800 hx0.1 rfl
    refine x_getR C S KX12 hx0 1 (by decide) rfl rfl fl_RX12_14 hR2 dX12_isAt_12 ?_
    refine lv_aload_n hx hb dX12_isAt_15 rfl (lv_at hl 0 rfl) ?_
    refine x_getI C S KX12 hx0 4 (by decide) rfl rfl fl_RX12_27 dX12_isAt_16 ?_
    obtain ⟨hi3, h⟩ := ck_el h
    refine x_bald (len := 800) C S (by decide) hR2 hi3 dX12_isAt_19 ?_
    refine lv_iload_n hx hb dX12_isAt_20 rfl (lv_at hl 1 rfl) ?_
    refine lv_icmp_lt (tgt := 41) hx hb dX12_isAt_21 (by decide) (fun c4 => ?_) (fun c4 => ?_)
    · have h := it_p c4 h
      refine lv_iconst (v := (0 : Int32)) hx hb dX12_isAt_41 (by decide) ?_
      exact x_zret C S hr (by decide) h dX12_isAt_42
    · have h := it_n c4 h
      refine lv_aload_n hx hb dX12_isAt_24 rfl (lv_at hl 0 rfl) ?_
      have hR5 : Ok 194 (R x0 1) 20800 := hSh x0 12 1 20800 hx0.1 rfl
      refine x_getR C S KX12 hx0 1 (by decide) rfl rfl fl_RX12_14 hR5 dX12_isAt_25 ?_
      refine lv_aload_n hx hb dX12_isAt_28 rfl (lv_at hl 0 rfl) ?_
      refine x_getI C S KX12 hx0 4 (by decide) rfl rfl fl_RX12_27 dX12_isAt_29 ?_
      obtain ⟨hi6, h⟩ := ck_el h
      refine x_bald (len := 800) C S (by decide) hR5 hi6 dX12_isAt_32 ?_
      refine lv_iload_n hx hb dX12_isAt_33 rfl (lv_at hl 2 rfl) ?_
      refine lv_icmp_gt (tgt := 41) hx hb dX12_isAt_34 (by decide) (fun c7 => ?_) (fun c7 => ?_)
      · have h := it_p c7 h
        refine lv_iconst (v := (0 : Int32)) hx hb dX12_isAt_41 (by decide) ?_
        exact x_zret C S hr (by decide) h dX12_isAt_42
      · have h := it_n c7 h
        refine lv_iconst (v := (1 : Int32)) hx hb dX12_isAt_37 (by decide) ?_
        refine lv_goto (tgt := 42) hx hb dX12_isAt_38 (by decide) ?_
        exact x_zret C S hr (by decide) h dX12_isAt_42
theorem dX12_blanks_0 : decode cX12_blanks 0 = .ok (.aload_n 0, 1) := by decide +kernel
theorem dX12_blanks_1 : decode cX12_blanks 1 = .ok (.bipush 9, 2) := by decide +kernel
theorem dX12_blanks_3 : decode cX12_blanks 3 = .ok (.bipush 10, 2) := by decide +kernel
theorem dX12_blanks_5 : decode cX12_blanks 5 = .ok (.invokevirtual 33, 3) := by decide +kernel
theorem dX12_blanks_8 : decode cX12_blanks 8 = .ok (.ifCond .ne 14, 3) := by decide +kernel
theorem dX12_blanks_11 : decode cX12_blanks 11 = .ok (.aload_n 0, 1) := by decide +kernel
theorem dX12_blanks_12 : decode cX12_blanks 12 = .ok (.bipush 32, 2) := by decide +kernel
theorem dX12_blanks_14 : decode cX12_blanks 14 = .ok (.bipush 32, 2) := by decide +kernel
theorem dX12_blanks_16 : decode cX12_blanks 16 = .ok (.invokevirtual 33, 3) := by decide +kernel
theorem dX12_blanks_19 : decode cX12_blanks 19 = .ok (.ifCond .eq 16, 3) := by decide +kernel
theorem dX12_blanks_22 : decode cX12_blanks 22 = .ok (.aload_n 0, 1) := by decide +kernel
theorem dX12_blanks_23 : decode cX12_blanks 23 = .ok (.dup, 1) := by decide +kernel
theorem dX12_blanks_24 : decode cX12_blanks 24 = .ok (.getfield 27, 3) := by decide +kernel
theorem dX12_blanks_27 : decode cX12_blanks 27 = .ok (.iconst 1, 1) := by decide +kernel
theorem dX12_blanks_28 : decode cX12_blanks 28 = .ok (.iadd, 1) := by decide +kernel
theorem dX12_blanks_29 : decode cX12_blanks 29 = .ok (.putfield 27, 3) := by decide +kernel
theorem dX12_blanks_32 : decode cX12_blanks 32 = .ok (.goto (-32), 3) := by decide +kernel
theorem dX12_blanks_35 : decode cX12_blanks 35 = .ok (.aload_n 0, 1) := by decide +kernel
theorem dX12_blanks_36 : decode cX12_blanks 36 = .ok (.aload_n 0, 1) := by decide +kernel
theorem dX12_blanks_37 : decode cX12_blanks 37 = .ok (.getfield 27, 3) := by decide +kernel
theorem dX12_blanks_40 : decode cX12_blanks 40 = .ok (.putfield 37, 3) := by decide +kernel
theorem dX12_blanks_43 : decode cX12_blanks 43 = .ok (.return_, 1) := by decide +kernel
def f_X12_blanks_22 (N : Nat) (R : Nat → Nat → Nat) (k0 : SI → Nat → Option (Unit × SI)) (σ : SI) (x0 : Nat) : Option (Unit × SI) := sq (up σ x0 4 ((σ x0 4) + (1 : Int32))) (fun σ3 => k0 σ3 x0)
def f_X12_blanks_0 (N : Nat) (R : Nat → Nat → Nat) : Nat → SI → Nat → Option (Unit × SI)
  | 0, _, _ => none
  | n + 1, σ, x0 => bd (f_X12_isAt N R σ x0 (9 : Int32) (10 : Int32)) (fun a1 σ1 => if a1 = 0 then (bd (f_X12_isAt N R σ1 x0 (32 : Int32) (32 : Int32)) (fun a4 σ4 => if a4 = 0 then (sq (up σ4 x0 5 (σ4 x0 4)) (fun σ6 => some ((), σ6))) else (f_X12_blanks_22 N R (fun σ x0 => f_X12_blanks_0 N R n σ x0) σ4 x0))) else (f_X12_blanks_22 N R (fun σ x0 => f_X12_blanks_0 N R n σ x0) σ1 x0))
def f_X12_blanks (N : Nat) (R : Nat → Nat → Nat) (σ : SI) (x0 : Nat) : Option (Unit × SI) := f_X12_blanks_0 N R N σ x0
set_option maxHeartbeats 4000000 in
set_option maxRecDepth 100000 in
theorem w_X12_blanks_22 {l : Launch} {g : GL} {p : Program} {e : Jvm.Env} {s : State} {m : MethodId} {args : Array Value} {below : List Frame} {meth : Method} {c : Code} {R : Nat → Nat → Nat} {L : Nat → Nat → Int64} {r : (Unit × SI)} {N : Nat} {k0 : SI → Nat → Option (Unit × SI)} (C : Cx l g p s m meth c cX12_blanks 1 RX12) (hr : meth.sig.returnType = none) (hSh : ShR R) (hk0 : ∀ (σ : SI) (x0 : Nat), k0 σ x0 = some r → Ok 194 x0 12 → ∀ (H : Heap) (locs : List Loc) (ls : Array Slot), S2 g s σ R L H locs → lv_has ls 1 [(0, .ref (gb g + x0))] → W p l e (rmd 2 0 0) s m args below meth c H locs 0 0 (MQ below (Qg g 194 (PV R L r)) args s 0 0 (gA g)) (F0 m 0 ls [])) : ∀ (σ : SI) (x0 : Nat), f_X12_blanks_22 N R k0 σ x0 = some r → Ok 194 x0 12 → ∀ (H : Heap) (locs : List Loc) (ls : Array Slot), S2 g s σ R L H locs → lv_has ls 1 [(0, .ref (gb g + x0))] → W p l e (rmd 2 0 0) s m args below meth c H locs 0 0 (MQ below (Qg g 194 (PV R L r)) args s 0 0 (gA g)) (F0 m 22 ls []) := by
  have hx := C.1
  have hb := C.2.1
  intro σ x0 h hx0 H locs ls S hl
  rw [f_X12_blanks_22] at h
  refine lv_aload_n hx hb dX12_blanks_22 rfl (lv_at hl 0 rfl) ?_
  refine lv_dup hx hb dX12_blanks_23 rfl ?_
  refine x_getI C S KX12 hx0 4 (by decide) rfl rfl fl_RX12_27 dX12_blanks_24 ?_
  refine lv_iconst (v := (1 : Int32)) hx hb dX12_blanks_27 (by decide) ?_
  refine lv_iadd hx hb dX12_blanks_28 ?_
  obtain ⟨σ3, hs3, h⟩ := sq_el h
  refine x_putI C S KX12 hx0 4 (by decide) rfl rfl rfl ⟨rfl, rfl⟩ fl_RX12_27 dX12_blanks_29 hs3 (fun H locs S => ?_)
  refine lv_goto (tgt := 0) hx hb dX12_blanks_32 (by decide) ?_
  exact hk0 σ3 x0 h hx0 H locs ls S (lv_sub hl [0] rfl)
set_option maxHeartbeats 4000000 in
set_option maxRecDepth 100000 in
theorem w_X12_blanks_0 {l : Launch} {g : GL} {p : Program} {e : Jvm.Env} {s : State} {m : MethodId} {args : Array Value} {below : List Frame} {meth : Method} {c : Code} {R : Nat → Nat → Nat} {L : Nat → Nat → Int64} {r : (Unit × SI)} {N : Nat} (C : Cx l g p s m meth c cX12_blanks 1 RX12) (hr : meth.sig.returnType = none) (hSh : ShR R) : ∀ (n : Nat) (σ : SI) (x0 : Nat), f_X12_blanks_0 N R n σ x0 = some r → Ok 194 x0 12 → ∀ (H : Heap) (locs : List Loc) (ls : Array Slot), S2 g s σ R L H locs → lv_has ls 1 [(0, .ref (gb g + x0))] → W p l e (rmd 2 0 0) s m args below meth c H locs 0 0 (MQ below (Qg g 194 (PV R L r)) args s 0 0 (gA g)) (F0 m 0 ls []) := by
  have hx := C.1
  have hb := C.2.1
  intro n
  induction n with
  | zero =>
    intro σ x0 h
    cases (show (none : Option (Unit × SI)) = some r from h)
  | succ n ih =>
    intro σ x0 h hx0 H locs ls S hl
    rw [f_X12_blanks_0] at h
    refine lv_aload_n hx hb dX12_blanks_0 rfl (lv_at hl 0 rfl) ?_
    refine lv_bipush (v := (9 : Int32)) hx hb dX12_blanks_1 (by decide) ?_
    refine lv_bipush (v := (10 : Int32)) hx hb dX12_blanks_3 (by decide) ?_
    obtain ⟨a1, σ1, hc1, h⟩ := bd_el h
    refine x_callVI C S KX12 hx0 (ok_X12_isAt (L := L) hc1 hSh hx0) ⟨cd_X12_isAt, ni_RX12, ml_RX12_33, in_X12_isAt, sl_X12_isAt⟩ ⟨by decide, by decide⟩ rfl ⟨by decide, by decide⟩ hl.1 rfl (Nat.le_of_ble_eq_true rfl) ⟨by decide, by decide⟩ dX12_blanks_5 (fun H locs S => ?_)
    refine lv_if_ne (tgt := 22) hx hb dX12_blanks_8 (by decide) (fun c2 => ?_) (fun c2 => ?_)
    · have h := it_n c2 h
      exact w_X12_blanks_22 C hr hSh ih σ1 x0 h hx0 H locs ls S (lv_sub hl [0] rfl)
    · have h := it_p c2 h
      refine lv_aload_n hx hb dX12_blanks_11 rfl (lv_at hl 0 rfl) ?_
      refine lv_bipush (v := (32 : Int32)) hx hb dX12_blanks_12 (by decide) ?_
      refine lv_bipush (v := (32 : Int32)) hx hb dX12_blanks_14 (by decide) ?_
      obtain ⟨a4, σ4, hc4, h⟩ := bd_el h
      refine x_callVI C S KX12 hx0 (ok_X12_isAt (L := L) hc4 hSh hx0) ⟨cd_X12_isAt, ni_RX12, ml_RX12_33, in_X12_isAt, sl_X12_isAt⟩ ⟨by decide, by decide⟩ rfl ⟨by decide, by decide⟩ hl.1 rfl (Nat.le_of_ble_eq_true rfl) ⟨by decide, by decide⟩ dX12_blanks_16 (fun H locs S => ?_)
      refine lv_if_eq (tgt := 35) hx hb dX12_blanks_19 (by decide) (fun c5 => ?_) (fun c5 => ?_)
      · have h := it_p c5 h
        refine lv_aload_n hx hb dX12_blanks_35 rfl (lv_at hl 0 rfl) ?_
        refine lv_aload_n hx hb dX12_blanks_36 rfl (lv_at hl 0 rfl) ?_
        refine x_getI C S KX12 hx0 4 (by decide) rfl rfl fl_RX12_27 dX12_blanks_37 ?_
        obtain ⟨σ6, hs6, h⟩ := sq_el h
        refine x_putI C S KX12 hx0 5 (by decide) rfl rfl rfl ⟨rfl, rfl⟩ fl_RX12_37 dX12_blanks_40 hs6 (fun H locs S => ?_)
        exact x_vret C S hr h dX12_blanks_43
      · have h := it_n c5 h
        exact w_X12_blanks_22 C hr hSh ih σ4 x0 h hx0 H locs ls S (lv_sub hl [0] rfl)
set_option maxHeartbeats 4000000 in
set_option maxRecDepth 100000 in
theorem ok_X12_blanks {l : Launch} {g : GL} {R : Nat → Nat → Nat} {L : Nat → Nat → Int64} {N : Nat} {σ : SI} {x0 : Nat} {r : (Unit × SI)} (h : f_X12_blanks N R σ x0 = some r) (hSh : ShR R) (hx0 : Ok 194 x0 12) : Ct l g 2 yX12_blanks cX12_blanks 1 none 194 194 0 0 [.ref (gb g + x0)] (mkS σ R L) (PV R L r) := by
  refine Met.ofW (cc := cX12_blanks) (maxL := 1) (ret := none) (by decide) rfl ?_
  intro p e s m args below meth c s₁ B hml hv
  obtain ⟨rfl, hE, hLo, hWd⟩ := hv
  have hr : meth.sig.returnType = none := B.returns
  have C : Cx l g p s m meth c cX12_blanks 1 RX12 := ⟨B.exec, B.bytes, hml, findClass_of_methodNamed B.named, hE, hLo, B.notSynchronized⟩
  have S : S2 g s σ R L s.heap [] := ⟨hWd, va_S.rf⟩
  have hx := C.1
  have hb := C.2.1
  have hl := lv_entry ([.ref (gb g + x0)]) (n := 1) (Nat.le_of_ble_eq_true rfl)
  rw [lg_entry_eq]
  generalize (lg_sl ([.ref (gb g + x0)]) ++ List.replicate (1 - (lg_sl ([.ref (gb g + x0)])).length) Slot.unset).toArray = ls at hl ⊢
  have hl : lv_has ls 1 [(0, .ref (gb g + x0))] := hl
  generalize hH : s.heap = H at S ⊢
  generalize hlc : ([] : List Loc) = locs at S ⊢
  rw [f_X12_blanks] at h
  exact w_X12_blanks_0 C hr hSh N σ x0 h hx0 H locs ls S (lv_sub hl [0] rfl)
theorem dX12_must_0 : decode cX12_must 0 = .ok (.iload_n 1, 1) := by decide +kernel
theorem dX12_must_1 : decode cX12_must 1 = .ok (.ifCond .ne 10, 3) := by decide +kernel
theorem dX12_must_4 : decode cX12_must 4 = .ok (.aload_n 0, 1) := by decide +kernel
theorem dX12_must_5 : decode cX12_must 5 = .ok (.invokevirtual 40, 3) := by decide +kernel
theorem dX12_must_8 : decode cX12_must 8 = .ok (.ifCond .eq 4, 3) := by decide +kernel
theorem dX12_must_11 : decode cX12_must 11 = .ok (.return_, 1) := by decide +kernel
theorem dX12_must_12 : decode cX12_must 12 = .ok (.aload_n 0, 1) := by decide +kernel
theorem dX12_must_13 : decode cX12_must 13 = .ok (.aload_n 0, 1) := by decide +kernel
theorem dX12_must_14 : decode cX12_must 14 = .ok (.getfield 37, 3) := by decide +kernel
theorem dX12_must_17 : decode cX12_must 17 = .ok (.putfield 24, 3) := by decide +kernel
theorem dX12_must_20 : decode cX12_must 20 = .ok (.aload_n 0, 1) := by decide +kernel
theorem dX12_must_21 : decode cX12_must 21 = .ok (.iload_n 2, 1) := by decide +kernel
theorem dX12_must_22 : decode cX12_must 22 = .ok (.putfield 44, 3) := by decide +kernel
theorem dX12_must_25 : decode cX12_must 25 = .ok (.return_, 1) := by decide +kernel
def f_X12_must (N : Nat) (R : Nat → Nat → Nat) (σ : SI) (x0 : Nat) (x1 : Int32) (x2 : Int32) : Option (Unit × SI) := if x1 = 0 then (bd (f_X12_hasFailed N R σ x0) (fun a2 σ2 => if a2 = 0 then (sq (up σ2 x0 7 (σ2 x0 5)) (fun σ4 => sq (up σ4 x0 8 x2) (fun σ5 => some ((), σ5)))) else (some ((), σ2)))) else (some ((), σ))
set_option maxHeartbeats 4000000 in
set_option maxRecDepth 100000 in
theorem ok_X12_must {l : Launch} {g : GL} {R : Nat → Nat → Nat} {L : Nat → Nat → Int64} {N : Nat} {σ : SI} {x0 : Nat} {x1 : Int32} {x2 : Int32} {r : (Unit × SI)} (h : f_X12_must N R σ x0 x1 x2 = some r) (hSh : ShR R) (hx0 : Ok 194 x0 12) : Ct l g 2 yX12_must cX12_must 3 none 194 194 0 0 [.ref (gb g + x0), .int x1, .int x2] (mkS σ R L) (PV R L r) := by
  refine Met.ofW (cc := cX12_must) (maxL := 3) (ret := none) (by decide) rfl ?_
  intro p e s m args below meth c s₁ B hml hv
  obtain ⟨rfl, hE, hLo, hWd⟩ := hv
  have hr : meth.sig.returnType = none := B.returns
  have C : Cx l g p s m meth c cX12_must 3 RX12 := ⟨B.exec, B.bytes, hml, findClass_of_methodNamed B.named, hE, hLo, B.notSynchronized⟩
  have S : S2 g s σ R L s.heap [] := ⟨hWd, va_S.rf⟩
  have hx := C.1
  have hb := C.2.1
  have hl := lv_entry ([.ref (gb g + x0), .int x1, .int x2]) (n := 3) (Nat.le_of_ble_eq_true rfl)
  rw [lg_entry_eq]
  generalize (lg_sl ([.ref (gb g + x0), .int x1, .int x2]) ++ List.replicate (3 - (lg_sl ([.ref (gb g + x0), .int x1, .int x2])).length) Slot.unset).toArray = ls at hl ⊢
  have hl : lv_has ls 3 [(0, .ref (gb g + x0)), (1, .int x1), (2, .int x2)] := hl
  generalize hH : s.heap = H at S ⊢
  generalize hlc : ([] : List Loc) = locs at S ⊢
  rw [f_X12_must] at h
  refine lv_iload_n hx hb dX12_must_0 rfl (lv_at hl 1 rfl) ?_
  refine lv_if_ne (tgt := 11) hx hb dX12_must_1 (by decide) (fun c1 => ?_) (fun c1 => ?_)
  · have h := it_n c1 h
    exact x_vret C S hr h dX12_must_11
  · have h := it_p c1 h
    refine lv_aload_n hx hb dX12_must_4 rfl (lv_at hl 0 rfl) ?_
    obtain ⟨a2, σ2, hc2, h⟩ := bd_el h
    refine x_callVI C S KX12 hx0 (ok_X12_hasFailed (L := L) hc2 hSh hx0) ⟨cd_X12_hasFailed, ni_RX12, ml_RX12_40, in_X12_hasFailed, sl_X12_hasFailed⟩ ⟨by decide, by decide⟩ rfl ⟨by decide, by decide⟩ hl.1 rfl (Nat.le_of_ble_eq_true rfl) ⟨by decide, by decide⟩ dX12_must_5 (fun H locs S => ?_)
    refine lv_if_eq (tgt := 12) hx hb dX12_must_8 (by decide) (fun c3 => ?_) (fun c3 => ?_)
    · have h := it_p c3 h
      refine lv_aload_n hx hb dX12_must_12 rfl (lv_at hl 0 rfl) ?_
      refine lv_aload_n hx hb dX12_must_13 rfl (lv_at hl 0 rfl) ?_
      refine x_getI C S KX12 hx0 5 (by decide) rfl rfl fl_RX12_37 dX12_must_14 ?_
      obtain ⟨σ4, hs4, h⟩ := sq_el h
      refine x_putI C S KX12 hx0 7 (by decide) rfl rfl rfl ⟨rfl, rfl⟩ fl_RX12_24 dX12_must_17 hs4 (fun H locs S => ?_)
      refine lv_aload_n hx hb dX12_must_20 rfl (lv_at hl 0 rfl) ?_
      refine lv_iload_n hx hb dX12_must_21 rfl (lv_at hl 2 rfl) ?_
      obtain ⟨σ5, hs5, h⟩ := sq_el h
      refine x_putI C S KX12 hx0 8 (by decide) rfl rfl rfl ⟨rfl, rfl⟩ fl_RX12_44 dX12_must_22 hs5 (fun H locs S => ?_)
      exact x_vret C S hr h dX12_must_25
    · have h := it_n c3 h
      exact x_vret C S hr h dX12_must_11
theorem dX12_letters_0 : decode cX12_letters 0 = .ok (.aload_n 0, 1) := by decide +kernel
theorem dX12_letters_1 : decode cX12_letters 1 = .ok (.invokevirtual 47, 3) := by decide +kernel
theorem dX12_letters_4 : decode cX12_letters 4 = .ok (.aload_n 0, 1) := by decide +kernel
theorem dX12_letters_5 : decode cX12_letters 5 = .ok (.getfield 27, 3) := by decide +kernel
theorem dX12_letters_8 : decode cX12_letters 8 = .ok (.istore_n 1, 1) := by decide +kernel
theorem dX12_letters_9 : decode cX12_letters 9 = .ok (.iload_n 1, 1) := by decide +kernel
theorem dX12_letters_10 : decode cX12_letters 10 = .ok (.aload_n 0, 1) := by decide +kernel
theorem dX12_letters_11 : decode cX12_letters 11 = .ok (.getfield 30, 3) := by decide +kernel
theorem dX12_letters_14 : decode cX12_letters 14 = .ok (.if_icmp .ge 31, 3) := by decide +kernel
theorem dX12_letters_17 : decode cX12_letters 17 = .ok (.aload_n 0, 1) := by decide +kernel
theorem dX12_letters_18 : decode cX12_letters 18 = .ok (.getfield 14, 3) := by decide +kernel
theorem dX12_letters_21 : decode cX12_letters 21 = .ok (.iload_n 1, 1) := by decide +kernel
theorem dX12_letters_22 : decode cX12_letters 22 = .ok (.baload, 1) := by decide +kernel
theorem dX12_letters_23 : decode cX12_letters 23 = .ok (.bipush 97, 2) := by decide +kernel
theorem dX12_letters_25 : decode cX12_letters 25 = .ok (.if_icmp .lt 20, 3) := by decide +kernel
theorem dX12_letters_28 : decode cX12_letters 28 = .ok (.aload_n 0, 1) := by decide +kernel
theorem dX12_letters_29 : decode cX12_letters 29 = .ok (.getfield 14, 3) := by decide +kernel
theorem dX12_letters_32 : decode cX12_letters 32 = .ok (.iload_n 1, 1) := by decide +kernel
theorem dX12_letters_33 : decode cX12_letters 33 = .ok (.baload, 1) := by decide +kernel
theorem dX12_letters_34 : decode cX12_letters 34 = .ok (.bipush 122, 2) := by decide +kernel
theorem dX12_letters_36 : decode cX12_letters 36 = .ok (.if_icmp .gt 9, 3) := by decide +kernel
theorem dX12_letters_39 : decode cX12_letters 39 = .ok (.iinc 1 1, 3) := by decide +kernel
theorem dX12_letters_42 : decode cX12_letters 42 = .ok (.goto (-33), 3) := by decide +kernel
theorem dX12_letters_45 : decode cX12_letters 45 = .ok (.iload_n 1, 1) := by decide +kernel
theorem dX12_letters_46 : decode cX12_letters 46 = .ok (.aload_n 0, 1) := by decide +kernel
theorem dX12_letters_47 : decode cX12_letters 47 = .ok (.getfield 27, 3) := by decide +kernel
theorem dX12_letters_50 : decode cX12_letters 50 = .ok (.isub, 1) := by decide +kernel
theorem dX12_letters_51 : decode cX12_letters 51 = .ok (.ireturn, 1) := by decide +kernel
def f_X12_letters_45 (N : Nat) (R : Nat → Nat → Nat) (σ : SI) (x0 : Nat) (x1 : Int32) : Option (Int32 × SI) := some (x1 - (σ x0 4), σ)
def f_X12_letters_9 (N : Nat) (R : Nat → Nat → Nat) : Nat → SI → Nat → Int32 → Option (Int32 × SI)
  | 0, _, _, _ => none
  | n + 1, σ, x0, x1 => if (σ x0 6) ≤ x1 then (f_X12_letters_45 N R σ x0 x1) else (ck x1 800 (if (σ (R x0 1) x1.toNatClampNeg) < (97 : Int32) then (f_X12_letters_45 N R σ x0 x1) else (ck x1 800 (if (122 : Int32) < (σ (R x0 1) x1.toNatClampNeg) then (f_X12_letters_45 N R σ x0 x1) else (f_X12_letters_9 N R n σ x0 (x1 + 1))))))
def f_X12_letters (N : Nat) (R : Nat → Nat → Nat) (σ : SI) (x0 : Nat) : Option (Int32 × SI) := bd (f_X12_blanks N R σ x0) (fun _ σ1 => f_X12_letters_9 N R N σ1 x0 (σ1 x0 4))
set_option maxHeartbeats 4000000 in
set_option maxRecDepth 100000 in
theorem w_X12_letters_45 {l : Launch} {g : GL} {p : Program} {e : Jvm.Env} {s : State} {m : MethodId} {args : Array Value} {below : List Frame} {meth : Method} {c : Code} {R : Nat → Nat → Nat} {L : Nat → Nat → Int64} {r : (Int32 × SI)} {N : Nat} (C : Cx l g p s m meth c cX12_letters 2 RX12) (hr : meth.sig.returnType = (some .int)) (hSh : ShR R) : ∀ (σ : SI) (x0 : Nat) (x1 : Int32), f_X12_letters_45 N R σ x0 x1 = some r → Ok 194 x0 12 → ∀ (H : Heap) (locs : List Loc) (ls : Array Slot), S2 g s σ R L H locs → lv_has ls 2 [(0, .ref (gb g + x0)), (1, .int x1)] → W p l e (rmd 3 0 0) s m args below meth c H locs 0 0 (MQ below (Qg g 194 (PI R L r)) args s 0 0 (gA g)) (F0 m 45 ls []) := by
  have hx := C.1
  have hb := C.2.1
  intro σ x0 x1 h hx0 H locs ls S hl
  rw [f_X12_letters_45] at h
  refine lv_iload_n hx hb dX12_letters_45 rfl (lv_at hl 1 rfl) ?_
  refine lv_aload_n hx hb dX12_letters_46 rfl (lv_at hl 0 rfl) ?_
  refine x_getI C S KX12 hx0 4 (by decide) rfl rfl fl_RX12_27 dX12_letters_47 ?_
  refine lv_isub hx hb dX12_letters_50 ?_
  exact x_iret C S hr h dX12_letters_51
set_option maxHeartbeats 4000000 in
set_option maxRecDepth 100000 in
theorem w_X12_letters_9 {l : Launch} {g : GL} {p : Program} {e : Jvm.Env} {s : State} {m : MethodId} {args : Array Value} {below : List Frame} {meth : Method} {c : Code} {R : Nat → Nat → Nat} {L : Nat → Nat → Int64} {r : (Int32 × SI)} {N : Nat} (C : Cx l g p s m meth c cX12_letters 2 RX12) (hr : meth.sig.returnType = (some .int)) (hSh : ShR R) : ∀ (n : Nat) (σ : SI) (x0 : Nat) (x1 : Int32), f_X12_letters_9 N R n σ x0 x1 = some r → Ok 194 x0 12 → ∀ (H : Heap) (locs : List Loc) (ls : Array Slot), S2 g s σ R L H locs → lv_has ls 2 [(0, .ref (gb g + x0)), (1, .int x1)] → W p l e (rmd 3 0 0) s m args below meth c H locs 0 0 (MQ below (Qg g 194 (PI R L r)) args s 0 0 (gA g)) (F0 m 9 ls []) := by
  have hx := C.1
  have hb := C.2.1
  intro n
  induction n with
  | zero =>
    intro σ x0 x1 h
    cases (show (none : Option (Int32 × SI)) = some r from h)
  | succ n ih =>
    intro σ x0 x1 h hx0 H locs ls S hl
    rw [f_X12_letters_9] at h
    refine lv_iload_n hx hb dX12_letters_9 rfl (lv_at hl 1 rfl) ?_
    refine lv_aload_n hx hb dX12_letters_10 rfl (lv_at hl 0 rfl) ?_
    refine x_getI C S KX12 hx0 6 (by decide) rfl rfl fl_RX12_30 dX12_letters_11 ?_
    refine lv_icmp_ge (tgt := 45) hx hb dX12_letters_14 (by decide) (fun c2 => ?_) (fun c2 => ?_)
    · have h := it_p c2 h
      exact w_X12_letters_45 C hr hSh σ x0 x1 h hx0 H locs ls S (lv_sub hl [0, 1] rfl)
    · have h := it_n c2 h
      refine lv_aload_n hx hb dX12_letters_17 rfl (lv_at hl 0 rfl) ?_
      have hR3 : Ok 194 (R x0 1) 20800 := hSh x0 12 1 20800 hx0.1 rfl
      refine x_getR C S KX12 hx0 1 (by decide) rfl rfl fl_RX12_14 hR3 dX12_letters_18 ?_
      refine lv_iload_n hx hb dX12_letters_21 rfl (lv_at hl 1 rfl) ?_
      obtain ⟨hi4, h⟩ := ck_el h
      refine x_bald (len := 800) C S (by decide) hR3 hi4 dX12_letters_22 ?_
      refine lv_bipush (v := (97 : Int32)) hx hb dX12_letters_23 (by decide) ?_
      refine lv_icmp_lt (tgt := 45) hx hb dX12_letters_25 (by decide) (fun c5 => ?_) (fun c5 => ?_)
      · have h := it_p c5 h
        exact w_X12_letters_45 C hr hSh σ x0 x1 h hx0 H locs ls S (lv_sub hl [0, 1] rfl)
      · have h := it_n c5 h
        refine lv_aload_n hx hb dX12_letters_28 rfl (lv_at hl 0 rfl) ?_
        have hR6 : Ok 194 (R x0 1) 20800 := hSh x0 12 1 20800 hx0.1 rfl
        refine x_getR C S KX12 hx0 1 (by decide) rfl rfl fl_RX12_14 hR6 dX12_letters_29 ?_
        refine lv_iload_n hx hb dX12_letters_32 rfl (lv_at hl 1 rfl) ?_
        obtain ⟨hi7, h⟩ := ck_el h
        refine x_bald (len := 800) C S (by decide) hR6 hi7 dX12_letters_33 ?_
        refine lv_bipush (v := (122 : Int32)) hx hb dX12_letters_34 (by decide) ?_
        refine lv_icmp_gt (tgt := 45) hx hb dX12_letters_36 (by decide) (fun c8 => ?_) (fun c8 => ?_)
        · have h := it_p c8 h
          exact w_X12_letters_45 C hr hSh σ x0 x1 h hx0 H locs ls S (lv_sub hl [0, 1] rfl)
        · have h := it_n c8 h
          refine lv_iinc (v := x1 + 1) (lv' := [(1, .int (x1 + 1)), (0, .ref (gb g + x0))]) hx hb dX12_letters_39 hl (k := 1) rfl rfl (by decide) rfl (fun ls hl => ?_)
          refine lv_goto (tgt := 9) hx hb dX12_letters_42 (by decide) ?_
          exact ih σ x0 (x1 + 1) h hx0 H locs ls S (lv_sub hl [1, 0] rfl)
set_option maxHeartbeats 4000000 in
set_option maxRecDepth 100000 in
theorem ok_X12_letters {l : Launch} {g : GL} {R : Nat → Nat → Nat} {L : Nat → Nat → Int64} {N : Nat} {σ : SI} {x0 : Nat} {r : (Int32 × SI)} (h : f_X12_letters N R σ x0 = some r) (hSh : ShR R) (hx0 : Ok 194 x0 12) : Ct l g 3 yX12_letters cX12_letters 2 (some .int) 194 194 0 0 [.ref (gb g + x0)] (mkS σ R L) (PI R L r) := by
  refine Met.ofW (cc := cX12_letters) (maxL := 2) (ret := (some .int)) (by decide) rfl ?_
  intro p e s m args below meth c s₁ B hml hv
  obtain ⟨rfl, hE, hLo, hWd⟩ := hv
  have hr : meth.sig.returnType = (some .int) := B.returns
  have C : Cx l g p s m meth c cX12_letters 2 RX12 := ⟨B.exec, B.bytes, hml, findClass_of_methodNamed B.named, hE, hLo, B.notSynchronized⟩
  have S : S2 g s σ R L s.heap [] := ⟨hWd, va_S.rf⟩
  have hx := C.1
  have hb := C.2.1
  have hl := lv_entry ([.ref (gb g + x0)]) (n := 2) (Nat.le_of_ble_eq_true rfl)
  rw [lg_entry_eq]
  generalize (lg_sl ([.ref (gb g + x0)]) ++ List.replicate (2 - (lg_sl ([.ref (gb g + x0)])).length) Slot.unset).toArray = ls at hl ⊢
  have hl : lv_has ls 2 [(0, .ref (gb g + x0))] := hl
  generalize hH : s.heap = H at S ⊢
  generalize hlc : ([] : List Loc) = locs at S ⊢
  rw [f_X12_letters] at h
  refine lv_aload_n hx hb dX12_letters_0 rfl (lv_at hl 0 rfl) ?_
  obtain ⟨a1, σ1, hc1, h⟩ := bd_el h
  refine x_callVV C S KX12 hx0 (ok_X12_blanks (L := L) hc1 hSh hx0) ⟨cd_X12_blanks, ni_RX12, ml_RX12_47, in_X12_blanks, sl_X12_blanks⟩ ⟨by decide, by decide⟩ rfl ⟨by decide, by decide⟩ hl.1 rfl (Nat.le_of_ble_eq_true rfl) ⟨by decide, by decide⟩ dX12_letters_1 (fun H locs S => ?_)
  refine lv_aload_n hx hb dX12_letters_4 rfl (lv_at hl 0 rfl) ?_
  refine x_getI C S KX12 hx0 4 (by decide) rfl rfl fl_RX12_27 dX12_letters_5 ?_
  refine lv_istore_n (lv' := [(1, .int (σ1 x0 4)), (0, .ref (gb g + x0))]) hx hb dX12_letters_8 rfl hl (by decide) rfl (fun ls hl => ?_)
  exact w_X12_letters_9 C hr hSh N σ1 x0 (σ1 x0 4) h hx0 H locs ls S (lv_sub hl [1, 0] rfl)
theorem dX12_isFigure_0 : decode cX12_isFigure 0 = .ok (.aload_n 0, 1) := by decide +kernel
theorem dX12_isFigure_1 : decode cX12_isFigure 1 = .ok (.invokevirtual 47, 3) := by decide +kernel
theorem dX12_isFigure_4 : decode cX12_isFigure 4 = .ok (.aload_n 0, 1) := by decide +kernel
theorem dX12_isFigure_5 : decode cX12_isFigure 5 = .ok (.invokevirtual 40, 3) := by decide +kernel
theorem dX12_isFigure_8 : decode cX12_isFigure 8 = .ok (.ifCond .ne 18, 3) := by decide +kernel
theorem dX12_isFigure_11 : decode cX12_isFigure 11 = .ok (.aload_n 0, 1) := by decide +kernel
theorem dX12_isFigure_12 : decode cX12_isFigure 12 = .ok (.bipush 48, 2) := by decide +kernel
theorem dX12_isFigure_14 : decode cX12_isFigure 14 = .ok (.bipush 57, 2) := by decide +kernel
theorem dX12_isFigure_16 : decode cX12_isFigure 16 = .ok (.invokevirtual 33, 3) := by decide +kernel
theorem dX12_isFigure_19 : decode cX12_isFigure 19 = .ok (.ifCond .eq 7, 3) := by decide +kernel
theorem dX12_isFigure_22 : decode cX12_isFigure 22 = .ok (.iconst 1, 1) := by decide +kernel
theorem dX12_isFigure_23 : decode cX12_isFigure 23 = .ok (.goto 4, 3) := by decide +kernel
theorem dX12_isFigure_26 : decode cX12_isFigure 26 = .ok (.iconst 0, 1) := by decide +kernel
theorem dX12_isFigure_27 : decode cX12_isFigure 27 = .ok (.ireturn, 1) := by decide +kernel
def f_X12_isFigure (N : Nat) (R : Nat → Nat → Nat) (σ : SI) (x0 : Nat) : Option (Int32 × SI) := bd (f_X12_blanks N R σ x0) (fun _ σ1 => bd (f_X12_hasFailed N R σ1 x0) (fun a2 σ2 => if a2 = 0 then (bd (f_X12_isAt N R σ2 x0 (48 : Int32) (57 : Int32)) (fun a4 σ4 => if a4 = 0 then (some ((0 : Int32), σ4)) else (some ((1 : Int32), σ4)))) else (some ((0 : Int32), σ2))))
set_option maxHeartbeats 4000000 in
set_option maxRecDepth 100000 in
theorem ok_X12_isFigure {l : Launch} {g : GL} {R : Nat → Nat → Nat} {L : Nat → Nat → Int64} {N : Nat} {σ : SI} {x0 : Nat} {r : (Int32 × SI)} (h : f_X12_isFigure N R σ x0 = some r) (hSh : ShR R) (hx0 : Ok 194 x0 12) : Ct l g 3 yX12_isFigure cX12_isFigure 1 (some .boolean) 194 194 0 0 [.ref (gb g + x0)] (mkS σ R L) (PI R L r) := by
  refine Met.ofW (cc := cX12_isFigure) (maxL := 1) (ret := (some .boolean)) (by decide) rfl ?_
  intro p e s m args below meth c s₁ B hml hv
  obtain ⟨rfl, hE, hLo, hWd⟩ := hv
  have hr : meth.sig.returnType = (some .boolean) := B.returns
  have C : Cx l g p s m meth c cX12_isFigure 1 RX12 := ⟨B.exec, B.bytes, hml, findClass_of_methodNamed B.named, hE, hLo, B.notSynchronized⟩
  have S : S2 g s σ R L s.heap [] := ⟨hWd, va_S.rf⟩
  have hx := C.1
  have hb := C.2.1
  have hl := lv_entry ([.ref (gb g + x0)]) (n := 1) (Nat.le_of_ble_eq_true rfl)
  rw [lg_entry_eq]
  generalize (lg_sl ([.ref (gb g + x0)]) ++ List.replicate (1 - (lg_sl ([.ref (gb g + x0)])).length) Slot.unset).toArray = ls at hl ⊢
  have hl : lv_has ls 1 [(0, .ref (gb g + x0))] := hl
  generalize hH : s.heap = H at S ⊢
  generalize hlc : ([] : List Loc) = locs at S ⊢
  rw [f_X12_isFigure] at h
  refine lv_aload_n hx hb dX12_isFigure_0 rfl (lv_at hl 0 rfl) ?_
  obtain ⟨a1, σ1, hc1, h⟩ := bd_el h
  refine x_callVV C S KX12 hx0 (ok_X12_blanks (L := L) hc1 hSh hx0) ⟨cd_X12_blanks, ni_RX12, ml_RX12_47, in_X12_blanks, sl_X12_blanks⟩ ⟨by decide, by decide⟩ rfl ⟨by decide, by decide⟩ hl.1 rfl (Nat.le_of_ble_eq_true rfl) ⟨by decide, by decide⟩ dX12_isFigure_1 (fun H locs S => ?_)
  refine lv_aload_n hx hb dX12_isFigure_4 rfl (lv_at hl 0 rfl) ?_
  obtain ⟨a2, σ2, hc2, h⟩ := bd_el h
  refine x_callVI C S KX12 hx0 (ok_X12_hasFailed (L := L) hc2 hSh hx0) ⟨cd_X12_hasFailed, ni_RX12, ml_RX12_40, in_X12_hasFailed, sl_X12_hasFailed⟩ ⟨by decide, by decide⟩ rfl ⟨by decide, by decide⟩ hl.1 rfl (Nat.le_of_ble_eq_true rfl) ⟨by decide, by decide⟩ dX12_isFigure_5 (fun H locs S => ?_)
  refine lv_if_ne (tgt := 26) hx hb dX12_isFigure_8 (by decide) (fun c3 => ?_) (fun c3 => ?_)
  · have h := it_n c3 h
    refine lv_iconst (v := (0 : Int32)) hx hb dX12_isFigure_26 (by decide) ?_
    exact x_zret C S hr (by decide) h dX12_isFigure_27
  · have h := it_p c3 h
    refine lv_aload_n hx hb dX12_isFigure_11 rfl (lv_at hl 0 rfl) ?_
    refine lv_bipush (v := (48 : Int32)) hx hb dX12_isFigure_12 (by decide) ?_
    refine lv_bipush (v := (57 : Int32)) hx hb dX12_isFigure_14 (by decide) ?_
    obtain ⟨a4, σ4, hc4, h⟩ := bd_el h
    refine x_callVI C S KX12 hx0 (ok_X12_isAt (L := L) hc4 hSh hx0) ⟨cd_X12_isAt, ni_RX12, ml_RX12_33, in_X12_isAt, sl_X12_isAt⟩ ⟨by decide, by decide⟩ rfl ⟨by decide, by decide⟩ hl.1 rfl (Nat.le_of_ble_eq_true rfl) ⟨by decide, by decide⟩ dX12_isFigure_16 (fun H locs S => ?_)
    refine lv_if_eq (tgt := 26) hx hb dX12_isFigure_19 (by decide) (fun c5 => ?_) (fun c5 => ?_)
    · have h := it_p c5 h
      refine lv_iconst (v := (0 : Int32)) hx hb dX12_isFigure_26 (by decide) ?_
      exact x_zret C S hr (by decide) h dX12_isFigure_27
    · have h := it_n c5 h
      refine lv_iconst (v := (1 : Int32)) hx hb dX12_isFigure_22 (by decide) ?_
      refine lv_goto (tgt := 27) hx hb dX12_isFigure_23 (by decide) ?_
      exact x_zret C S hr (by decide) h dX12_isFigure_27
theorem dX12_number_0 : decode cX12_number 0 = .ok (.aload_n 0, 1) := by decide +kernel
theorem dX12_number_1 : decode cX12_number 1 = .ok (.invokevirtual 40, 3) := by decide +kernel
theorem dX12_number_4 : decode cX12_number 4 = .ok (.ifCond .eq 5, 3) := by decide +kernel
theorem dX12_number_7 : decode cX12_number 7 = .ok (.iload_n 1, 1) := by decide +kernel
theorem dX12_number_8 : decode cX12_number 8 = .ok (.ireturn, 1) := by decide +kernel
theorem dX12_number_9 : decode cX12_number 9 = .ok (.aload_n 0, 1) := by decide +kernel
theorem dX12_number_10 : decode cX12_number 10 = .ok (.aload_n 0, 1) := by decide +kernel
theorem dX12_number_11 : decode cX12_number 11 = .ok (.invokevirtual 64, 3) := by decide +kernel
theorem dX12_number_14 : decode cX12_number 14 = .ok (.iconst 1, 1) := by decide +kernel
theorem dX12_number_15 : decode cX12_number 15 = .ok (.invokevirtual 67, 3) := by decide +kernel
theorem dX12_number_18 : decode cX12_number 18 = .ok (.iconst 0, 1) := by decide +kernel
theorem dX12_number_19 : decode cX12_number 19 = .ok (.istore_n 3, 1) := by decide +kernel
theorem dX12_number_20 : decode cX12_number 20 = .ok (.aload_n 0, 1) := by decide +kernel
theorem dX12_number_21 : decode cX12_number 21 = .ok (.bipush 48, 2) := by decide +kernel
theorem dX12_number_23 : decode cX12_number 23 = .ok (.bipush 57, 2) := by decide +kernel
theorem dX12_number_25 : decode cX12_number 25 = .ok (.invokevirtual 33, 3) := by decide +kernel
theorem dX12_number_28 : decode cX12_number 28 = .ok (.ifCond .eq 47, 3) := by decide +kernel
theorem dX12_number_31 : decode cX12_number 31 = .ok (.aload_n 0, 1) := by decide +kernel
theorem dX12_number_32 : decode cX12_number 32 = .ok (.getfield 27, 3) := by decide +kernel
theorem dX12_number_35 : decode cX12_number 35 = .ok (.aload_n 0, 1) := by decide +kernel
theorem dX12_number_36 : decode cX12_number 36 = .ok (.getfield 37, 3) := by decide +kernel
theorem dX12_number_39 : decode cX12_number 39 = .ok (.isub, 1) := by decide +kernel
theorem dX12_number_40 : decode cX12_number 40 = .ok (.iconst 5, 1) := by decide +kernel
theorem dX12_number_41 : decode cX12_number 41 = .ok (.if_icmp .ge 21, 3) := by decide +kernel
theorem dX12_number_44 : decode cX12_number 44 = .ok (.bipush 10, 2) := by decide +kernel
theorem dX12_number_46 : decode cX12_number 46 = .ok (.iload_n 3, 1) := by decide +kernel
theorem dX12_number_47 : decode cX12_number 47 = .ok (.imul, 1) := by decide +kernel
theorem dX12_number_48 : decode cX12_number 48 = .ok (.aload_n 0, 1) := by decide +kernel
theorem dX12_number_49 : decode cX12_number 49 = .ok (.getfield 14, 3) := by decide +kernel
theorem dX12_number_52 : decode cX12_number 52 = .ok (.aload_n 0, 1) := by decide +kernel
theorem dX12_number_53 : decode cX12_number 53 = .ok (.getfield 27, 3) := by decide +kernel
theorem dX12_number_56 : decode cX12_number 56 = .ok (.baload, 1) := by decide +kernel
theorem dX12_number_57 : decode cX12_number 57 = .ok (.iadd, 1) := by decide +kernel
theorem dX12_number_58 : decode cX12_number 58 = .ok (.bipush 48, 2) := by decide +kernel
theorem dX12_number_60 : decode cX12_number 60 = .ok (.isub, 1) := by decide +kernel
theorem dX12_number_61 : decode cX12_number 61 = .ok (.istore_n 3, 1) := by decide +kernel
theorem dX12_number_62 : decode cX12_number 62 = .ok (.aload_n 0, 1) := by decide +kernel
theorem dX12_number_63 : decode cX12_number 63 = .ok (.dup, 1) := by decide +kernel
theorem dX12_number_64 : decode cX12_number 64 = .ok (.getfield 27, 3) := by decide +kernel
theorem dX12_number_67 : decode cX12_number 67 = .ok (.iconst 1, 1) := by decide +kernel
theorem dX12_number_68 : decode cX12_number 68 = .ok (.iadd, 1) := by decide +kernel
theorem dX12_number_69 : decode cX12_number 69 = .ok (.putfield 27, 3) := by decide +kernel
theorem dX12_number_72 : decode cX12_number 72 = .ok (.goto (-52), 3) := by decide +kernel
theorem dX12_number_75 : decode cX12_number 75 = .ok (.aload_n 0, 1) := by decide +kernel
theorem dX12_number_76 : decode cX12_number 76 = .ok (.aload_n 0, 1) := by decide +kernel
theorem dX12_number_77 : decode cX12_number 77 = .ok (.getfield 27, 3) := by decide +kernel
theorem dX12_number_80 : decode cX12_number 80 = .ok (.aload_n 0, 1) := by decide +kernel
theorem dX12_number_81 : decode cX12_number 81 = .ok (.getfield 37, 3) := by decide +kernel
theorem dX12_number_84 : decode cX12_number 84 = .ok (.isub, 1) := by decide +kernel
theorem dX12_number_85 : decode cX12_number 85 = .ok (.iconst 5, 1) := by decide +kernel
theorem dX12_number_86 : decode cX12_number 86 = .ok (.if_icmp .gt 16, 3) := by decide +kernel
theorem dX12_number_89 : decode cX12_number 89 = .ok (.iload_n 3, 1) := by decide +kernel
theorem dX12_number_90 : decode cX12_number 90 = .ok (.iload_n 1, 1) := by decide +kernel
theorem dX12_number_91 : decode cX12_number 91 = .ok (.iload_n 2, 1) := by decide +kernel
theorem dX12_number_92 : decode cX12_number 92 = .ok (.invokestatic 71, 3) := by decide +kernel
theorem dX12_number_95 : decode cX12_number 95 = .ok (.ifCond .eq 7, 3) := by decide +kernel
theorem dX12_number_98 : decode cX12_number 98 = .ok (.iconst 1, 1) := by decide +kernel
theorem dX12_number_99 : decode cX12_number 99 = .ok (.goto 4, 3) := by decide +kernel
theorem dX12_number_102 : decode cX12_number 102 = .ok (.iconst 0, 1) := by decide +kernel
theorem dX12_number_103 : decode cX12_number 103 = .ok (.iconst 2, 1) := by decide +kernel
theorem dX12_number_104 : decode cX12_number 104 = .ok (.invokevirtual 67, 3) := by decide +kernel
theorem dX12_number_107 : decode cX12_number 107 = .ok (.iload_n 3, 1) := by decide +kernel
theorem dX12_number_108 : decode cX12_number 108 = .ok (.ireturn, 1) := by decide +kernel
def f_X12_number_62 (N : Nat) (R : Nat → Nat → Nat) (k20 : SI → Nat → Int32 → Int32 → Int32 → Option (Int32 × SI)) (σ : SI) (x0 : Nat) (x1 : Int32) (x2 : Int32) (x3 : Int32) : Option (Int32 × SI) := sq (up σ x0 4 ((σ x0 4) + (1 : Int32))) (fun σ14 => k20 σ14 x0 x1 x2 x3)
def f_X12_number_20 (N : Nat) (R : Nat → Nat → Nat) : Nat → SI → Nat → Int32 → Int32 → Int32 → Option (Int32 × SI)
  | 0, _, _, _, _, _ => none
  | n + 1, σ, x0, x1, x2, x3 => bd (f_X12_isAt N R σ x0 (48 : Int32) (57 : Int32)) (fun a5 σ5 => if a5 = 0 then (if (5 : Int32) < ((σ5 x0 4) - (σ5 x0 5)) then (bd (f_X12_must N R σ5 x0 (0 : Int32) (2 : Int32)) (fun _ σ8 => some (x3, σ8))) else (bd (f_X12_in N R σ5 x3 x1 x2) (fun a9 σ9 => if a9 = 0 then (bd (f_X12_must N R σ9 x0 (0 : Int32) (2 : Int32)) (fun _ σ11 => some (x3, σ11))) else (bd (f_X12_must N R σ9 x0 (1 : Int32) (2 : Int32)) (fun _ σ12 => some (x3, σ12)))))) else (if (5 : Int32) ≤ ((σ5 x0 4) - (σ5 x0 5)) then (f_X12_number_62 N R (fun σ x0 x1 x2 x3 => f_X12_number_20 N R n σ x0 x1 x2 x3) σ5 x0 x1 x2 x3) else (ck (σ5 x0 4) 800 (f_X12_number_62 N R (fun σ x0 x1 x2 x3 => f_X12_number_20 N R n σ x0 x1 x2 x3) σ5 x0 x1 x2 ((((10 : Int32) * x3) + (σ5 (R x0 1) (σ5 x0 4).toNatClampNeg)) - (48 : Int32))))))
def f_X12_number (N : Nat) (R : Nat → Nat → Nat) (σ : SI) (x0 : Nat) (x1 : Int32) (x2 : Int32) : Option (Int32 × SI) := bd (f_X12_hasFailed N R σ x0) (fun a1 σ1 => if a1 = 0 then (bd (f_X12_isFigure N R σ1 x0) (fun a3 σ3 => bd (f_X12_must N R σ3 x0 a3 (1 : Int32)) (fun _ σ4 => f_X12_number_20 N R N σ4 x0 x1 x2 (0 : Int32)))) else (some (x1, σ1)))
set_option maxHeartbeats 4000000 in
set_option maxRecDepth 100000 in
theorem w_X12_number_62 {l : Launch} {g : GL} {p : Program} {e : Jvm.Env} {s : State} {m : MethodId} {args : Array Value} {below : List Frame} {meth : Method} {c : Code} {R : Nat → Nat → Nat} {L : Nat → Nat → Int64} {r : (Int32 × SI)} {N : Nat} {k20 : SI → Nat → Int32 → Int32 → Int32 → Option (Int32 × SI)} (C : Cx l g p s m meth c cX12_number 4 RX12) (hr : meth.sig.returnType = (some .int)) (hSh : ShR R) (hk20 : ∀ (σ : SI) (x0 : Nat) (x1 : Int32) (x2 : Int32) (x3 : Int32), k20 σ x0 x1 x2 x3 = some r → Ok 194 x0 12 → ∀ (H : Heap) (locs : List Loc) (ls : Array Slot), S2 g s σ R L H locs → lv_has ls 4 [(0, .ref (gb g + x0)), (1, .int x1), (2, .int x2), (3, .int x3)] → W p l e (rmd 4 0 0) s m args below meth c H locs 0 0 (MQ below (Qg g 194 (PI R L r)) args s 0 0 (gA g)) (F0 m 20 ls [])) : ∀ (σ : SI) (x0 : Nat) (x1 : Int32) (x2 : Int32) (x3 : Int32), f_X12_number_62 N R k20 σ x0 x1 x2 x3 = some r → Ok 194 x0 12 → ∀ (H : Heap) (locs : List Loc) (ls : Array Slot), S2 g s σ R L H locs → lv_has ls 4 [(0, .ref (gb g + x0)), (1, .int x1), (2, .int x2), (3, .int x3)] → W p l e (rmd 4 0 0) s m args below meth c H locs 0 0 (MQ below (Qg g 194 (PI R L r)) args s 0 0 (gA g)) (F0 m 62 ls []) := by
  have hx := C.1
  have hb := C.2.1
  intro σ x0 x1 x2 x3 h hx0 H locs ls S hl
  rw [f_X12_number_62] at h
  refine lv_aload_n hx hb dX12_number_62 rfl (lv_at hl 0 rfl) ?_
  refine lv_dup hx hb dX12_number_63 rfl ?_
  refine x_getI C S KX12 hx0 4 (by decide) rfl rfl fl_RX12_27 dX12_number_64 ?_
  refine lv_iconst (v := (1 : Int32)) hx hb dX12_number_67 (by decide) ?_
  refine lv_iadd hx hb dX12_number_68 ?_
  obtain ⟨σ14, hs14, h⟩ := sq_el h
  refine x_putI C S KX12 hx0 4 (by decide) rfl rfl rfl ⟨rfl, rfl⟩ fl_RX12_27 dX12_number_69 hs14 (fun H locs S => ?_)
  refine lv_goto (tgt := 20) hx hb dX12_number_72 (by decide) ?_
  exact hk20 σ14 x0 x1 x2 x3 h hx0 H locs ls S (lv_sub hl [0, 1, 2, 3] rfl)
set_option maxHeartbeats 4000000 in
set_option maxRecDepth 100000 in
theorem w_X12_number_20 {l : Launch} {g : GL} {p : Program} {e : Jvm.Env} {s : State} {m : MethodId} {args : Array Value} {below : List Frame} {meth : Method} {c : Code} {R : Nat → Nat → Nat} {L : Nat → Nat → Int64} {r : (Int32 × SI)} {N : Nat} (C : Cx l g p s m meth c cX12_number 4 RX12) (hr : meth.sig.returnType = (some .int)) (hSh : ShR R) : ∀ (n : Nat) (σ : SI) (x0 : Nat) (x1 : Int32) (x2 : Int32) (x3 : Int32), f_X12_number_20 N R n σ x0 x1 x2 x3 = some r → Ok 194 x0 12 → ∀ (H : Heap) (locs : List Loc) (ls : Array Slot), S2 g s σ R L H locs → lv_has ls 4 [(0, .ref (gb g + x0)), (1, .int x1), (2, .int x2), (3, .int x3)] → W p l e (rmd 4 0 0) s m args below meth c H locs 0 0 (MQ below (Qg g 194 (PI R L r)) args s 0 0 (gA g)) (F0 m 20 ls []) := by
  have hx := C.1
  have hb := C.2.1
  intro n
  induction n with
  | zero =>
    intro σ x0 x1 x2 x3 h
    cases (show (none : Option (Int32 × SI)) = some r from h)
  | succ n ih =>
    intro σ x0 x1 x2 x3 h hx0 H locs ls S hl
    rw [f_X12_number_20] at h
    refine lv_aload_n hx hb dX12_number_20 rfl (lv_at hl 0 rfl) ?_
    refine lv_bipush (v := (48 : Int32)) hx hb dX12_number_21 (by decide) ?_
    refine lv_bipush (v := (57 : Int32)) hx hb dX12_number_23 (by decide) ?_
    obtain ⟨a5, σ5, hc5, h⟩ := bd_el h
    refine x_callVI C S KX12 hx0 (ok_X12_isAt (L := L) hc5 hSh hx0) ⟨cd_X12_isAt, ni_RX12, ml_RX12_33, in_X12_isAt, sl_X12_isAt⟩ ⟨by decide, by decide⟩ rfl ⟨by decide, by decide⟩ hl.1 rfl (Nat.le_of_ble_eq_true rfl) ⟨by decide, by decide⟩ dX12_number_25 (fun H locs S => ?_)
    refine lv_if_eq (tgt := 75) hx hb dX12_number_28 (by decide) (fun c6 => ?_) (fun c6 => ?_)
    · have h := it_p c6 h
      refine lv_aload_n hx hb dX12_number_75 rfl (lv_at hl 0 rfl) ?_
      refine lv_aload_n hx hb dX12_number_76 rfl (lv_at hl 0 rfl) ?_
      refine x_getI C S KX12 hx0 4 (by decide) rfl rfl fl_RX12_27 dX12_number_77 ?_
      refine lv_aload_n hx hb dX12_number_80 rfl (lv_at hl 0 rfl) ?_
      refine x_getI C S KX12 hx0 5 (by decide) rfl rfl fl_RX12_37 dX12_number_81 ?_
      refine lv_isub hx hb dX12_number_84 ?_
      refine lv_iconst (v := (5 : Int32)) hx hb dX12_number_85 (by decide) ?_
      refine lv_icmp_gt (tgt := 102) hx hb dX12_number_86 (by decide) (fun c7 => ?_) (fun c7 => ?_)
      · have h := it_p c7 h
        refine lv_iconst (v := (0 : Int32)) hx hb dX12_number_102 (by decide) ?_
        refine lv_iconst (v := (2 : Int32)) hx hb dX12_number_103 (by decide) ?_
        obtain ⟨a8, σ8, hc8, h⟩ := bd_el h
        refine x_callVV C S KX12 hx0 (ok_X12_must (L := L) hc8 hSh hx0) ⟨cd_X12_must, ni_RX12, ml_RX12_67, in_X12_must, sl_X12_must⟩ ⟨by decide, by decide⟩ rfl ⟨by decide, by decide⟩ hl.1 rfl (Nat.le_of_ble_eq_true rfl) ⟨by decide, by decide⟩ dX12_number_104 (fun H locs S => ?_)
        refine lv_iload_n hx hb dX12_number_107 rfl (lv_at hl 3 rfl) ?_
        exact x_iret C S hr h dX12_number_108
      · have h := it_n c7 h
        refine lv_iload_n hx hb dX12_number_89 rfl (lv_at hl 3 rfl) ?_
        refine lv_iload_n hx hb dX12_number_90 rfl (lv_at hl 1 rfl) ?_
        refine lv_iload_n hx hb dX12_number_91 rfl (lv_at hl 2 rfl) ?_
        obtain ⟨a9, σ9, hc9, h⟩ := bd_el h
        refine x_callSI C S (ok_X12_in (L := L) hc9 hSh) ⟨cd_X12_in, ni_RX12, ml_RX12_71, st_X12_in⟩ ⟨by decide, by decide⟩ rfl ⟨by decide, by decide⟩ hl.1 rfl (Nat.le_of_ble_eq_true rfl) ⟨by decide, by decide⟩ dX12_number_92 (fun H locs S => ?_)
        refine lv_if_eq (tgt := 102) hx hb dX12_number_95 (by decide) (fun c10 => ?_) (fun c10 => ?_)
        · have h := it_p c10 h
          refine lv_iconst (v := (0 : Int32)) hx hb dX12_number_102 (by decide) ?_
          refine lv_iconst (v := (2 : Int32)) hx hb dX12_number_103 (by decide) ?_
          obtain ⟨a11, σ11, hc11, h⟩ := bd_el h
          refine x_callVV C S KX12 hx0 (ok_X12_must (L := L) hc11 hSh hx0) ⟨cd_X12_must, ni_RX12, ml_RX12_67, in_X12_must, sl_X12_must⟩ ⟨by decide, by decide⟩ rfl ⟨by decide, by decide⟩ hl.1 rfl (Nat.le_of_ble_eq_true rfl) ⟨by decide, by decide⟩ dX12_number_104 (fun H locs S => ?_)
          refine lv_iload_n hx hb dX12_number_107 rfl (lv_at hl 3 rfl) ?_
          exact x_iret C S hr h dX12_number_108
        · have h := it_n c10 h
          refine lv_iconst (v := (1 : Int32)) hx hb dX12_number_98 (by decide) ?_
          refine lv_goto (tgt := 103) hx hb dX12_number_99 (by decide) ?_
          refine lv_iconst (v := (2 : Int32)) hx hb dX12_number_103 (by decide) ?_
          obtain ⟨a12, σ12, hc12, h⟩ := bd_el h
          refine x_callVV C S KX12 hx0 (ok_X12_must (L := L) hc12 hSh hx0) ⟨cd_X12_must, ni_RX12, ml_RX12_67, in_X12_must, sl_X12_must⟩ ⟨by decide, by decide⟩ rfl ⟨by decide, by decide⟩ hl.1 rfl (Nat.le_of_ble_eq_true rfl) ⟨by decide, by decide⟩ dX12_number_104 (fun H locs S => ?_)
          refine lv_iload_n hx hb dX12_number_107 rfl (lv_at hl 3 rfl) ?_
          exact x_iret C S hr h dX12_number_108
    · have h := it_n c6 h
      refine lv_aload_n hx hb dX12_number_31 rfl (lv_at hl 0 rfl) ?_
      refine x_getI C S KX12 hx0 4 (by decide) rfl rfl fl_RX12_27 dX12_number_32 ?_
      refine lv_aload_n hx hb dX12_number_35 rfl (lv_at hl 0 rfl) ?_
      refine x_getI C S KX12 hx0 5 (by decide) rfl rfl fl_RX12_37 dX12_number_36 ?_
      refine lv_isub hx hb dX12_number_39 ?_
      refine lv_iconst (v := (5 : Int32)) hx hb dX12_number_40 (by decide) ?_
      refine lv_icmp_ge (tgt := 62) hx hb dX12_number_41 (by decide) (fun c13 => ?_) (fun c13 => ?_)
      · have h := it_p c13 h
        exact w_X12_number_62 C hr hSh ih σ5 x0 x1 x2 x3 h hx0 H locs ls S (lv_sub hl [0, 1, 2, 3] rfl)
      · have h := it_n c13 h
        refine lv_bipush (v := (10 : Int32)) hx hb dX12_number_44 (by decide) ?_
        refine lv_iload_n hx hb dX12_number_46 rfl (lv_at hl 3 rfl) ?_
        refine lv_imul hx hb dX12_number_47 ?_
        refine lv_aload_n hx hb dX12_number_48 rfl (lv_at hl 0 rfl) ?_
        have hR15 : Ok 194 (R x0 1) 20800 := hSh x0 12 1 20800 hx0.1 rfl
        refine x_getR C S KX12 hx0 1 (by decide) rfl rfl fl_RX12_14 hR15 dX12_number_49 ?_
        refine lv_aload_n hx hb dX12_number_52 rfl (lv_at hl 0 rfl) ?_
        refine x_getI C S KX12 hx0 4 (by decide) rfl rfl fl_RX12_27 dX12_number_53 ?_
        obtain ⟨hi16, h⟩ := ck_el h
        refine x_bald (len := 800) C S (by decide) hR15 hi16 dX12_number_56 ?_
        refine lv_iadd hx hb dX12_number_57 ?_
        refine lv_bipush (v := (48 : Int32)) hx hb dX12_number_58 (by decide) ?_
        refine lv_isub hx hb dX12_number_60 ?_
        refine lv_istore_n (lv' := [(3, .int ((((10 : Int32) * x3) + (σ5 (R x0 1) (σ5 x0 4).toNatClampNeg)) - (48 : Int32))), (0, .ref (gb g + x0)), (1, .int x1), (2, .int x2)]) hx hb dX12_number_61 rfl hl (by decide) rfl (fun ls hl => ?_)
        exact w_X12_number_62 C hr hSh ih σ5 x0 x1 x2 ((((10 : Int32) * x3) + (σ5 (R x0 1) (σ5 x0 4).toNatClampNeg)) - (48 : Int32)) h hx0 H locs ls S (lv_sub hl [1, 2, 3, 0] rfl)
set_option maxHeartbeats 4000000 in
set_option maxRecDepth 100000 in
theorem ok_X12_number {l : Launch} {g : GL} {R : Nat → Nat → Nat} {L : Nat → Nat → Int64} {N : Nat} {σ : SI} {x0 : Nat} {x1 : Int32} {x2 : Int32} {r : (Int32 × SI)} (h : f_X12_number N R σ x0 x1 x2 = some r) (hSh : ShR R) (hx0 : Ok 194 x0 12) : Ct l g 4 yX12_number cX12_number 4 (some .int) 194 194 0 0 [.ref (gb g + x0), .int x1, .int x2] (mkS σ R L) (PI R L r) := by
  refine Met.ofW (cc := cX12_number) (maxL := 4) (ret := (some .int)) (by decide) rfl ?_
  intro p e s m args below meth c s₁ B hml hv
  obtain ⟨rfl, hE, hLo, hWd⟩ := hv
  have hr : meth.sig.returnType = (some .int) := B.returns
  have C : Cx l g p s m meth c cX12_number 4 RX12 := ⟨B.exec, B.bytes, hml, findClass_of_methodNamed B.named, hE, hLo, B.notSynchronized⟩
  have S : S2 g s σ R L s.heap [] := ⟨hWd, va_S.rf⟩
  have hx := C.1
  have hb := C.2.1
  have hl := lv_entry ([.ref (gb g + x0), .int x1, .int x2]) (n := 4) (Nat.le_of_ble_eq_true rfl)
  rw [lg_entry_eq]
  generalize (lg_sl ([.ref (gb g + x0), .int x1, .int x2]) ++ List.replicate (4 - (lg_sl ([.ref (gb g + x0), .int x1, .int x2])).length) Slot.unset).toArray = ls at hl ⊢
  have hl : lv_has ls 4 [(0, .ref (gb g + x0)), (1, .int x1), (2, .int x2)] := hl
  generalize hH : s.heap = H at S ⊢
  generalize hlc : ([] : List Loc) = locs at S ⊢
  rw [f_X12_number] at h
  refine lv_aload_n hx hb dX12_number_0 rfl (lv_at hl 0 rfl) ?_
  obtain ⟨a1, σ1, hc1, h⟩ := bd_el h
  refine x_callVI C S KX12 hx0 (ok_X12_hasFailed (L := L) hc1 hSh hx0) ⟨cd_X12_hasFailed, ni_RX12, ml_RX12_40, in_X12_hasFailed, sl_X12_hasFailed⟩ ⟨by decide, by decide⟩ rfl ⟨by decide, by decide⟩ hl.1 rfl (Nat.le_of_ble_eq_true rfl) ⟨by decide, by decide⟩ dX12_number_1 (fun H locs S => ?_)
  refine lv_if_eq (tgt := 9) hx hb dX12_number_4 (by decide) (fun c2 => ?_) (fun c2 => ?_)
  · have h := it_p c2 h
    refine lv_aload_n hx hb dX12_number_9 rfl (lv_at hl 0 rfl) ?_
    refine lv_aload_n hx hb dX12_number_10 rfl (lv_at hl 0 rfl) ?_
    obtain ⟨a3, σ3, hc3, h⟩ := bd_el h
    refine x_callVI C S KX12 hx0 (ok_X12_isFigure (L := L) hc3 hSh hx0) ⟨cd_X12_isFigure, ni_RX12, ml_RX12_64, in_X12_isFigure, sl_X12_isFigure⟩ ⟨by decide, by decide⟩ rfl ⟨by decide, by decide⟩ hl.1 rfl (Nat.le_of_ble_eq_true rfl) ⟨by decide, by decide⟩ dX12_number_11 (fun H locs S => ?_)
    refine lv_iconst (v := (1 : Int32)) hx hb dX12_number_14 (by decide) ?_
    obtain ⟨a4, σ4, hc4, h⟩ := bd_el h
    refine x_callVV C S KX12 hx0 (ok_X12_must (L := L) hc4 hSh hx0) ⟨cd_X12_must, ni_RX12, ml_RX12_67, in_X12_must, sl_X12_must⟩ ⟨by decide, by decide⟩ rfl ⟨by decide, by decide⟩ hl.1 rfl (Nat.le_of_ble_eq_true rfl) ⟨by decide, by decide⟩ dX12_number_15 (fun H locs S => ?_)
    refine lv_iconst (v := (0 : Int32)) hx hb dX12_number_18 (by decide) ?_
    refine lv_istore_n (lv' := [(3, .int (0 : Int32)), (0, .ref (gb g + x0)), (1, .int x1), (2, .int x2)]) hx hb dX12_number_19 rfl hl (by decide) rfl (fun ls hl => ?_)
    exact w_X12_number_20 C hr hSh N σ4 x0 x1 x2 (0 : Int32) h hx0 H locs ls S (lv_sub hl [1, 2, 3, 0] rfl)
  · have h := it_n c2 h
    refine lv_iload_n hx hb dX12_number_7 rfl (lv_at hl 1 rfl) ?_
    exact x_iret C S hr h dX12_number_8
theorem dX12_begins_0 : decode cX12_begins 0 = .ok (.iconst 0, 1) := by decide +kernel
theorem dX12_begins_1 : decode cX12_begins 1 = .ok (.istore_n 1, 1) := by decide +kernel
theorem dX12_begins_2 : decode cX12_begins 2 = .ok (.iload_n 1, 1) := by decide +kernel
theorem dX12_begins_3 : decode cX12_begins 3 = .ok (.sipush 417, 3) := by decide +kernel
theorem dX12_begins_6 : decode cX12_begins 6 = .ok (.if_icmp .ge 16, 3) := by decide +kernel
theorem dX12_begins_9 : decode cX12_begins 9 = .ok (.aload_n 0, 1) := by decide +kernel
theorem dX12_begins_10 : decode cX12_begins 10 = .ok (.getfield 88, 3) := by decide +kernel
theorem dX12_begins_13 : decode cX12_begins 13 = .ok (.iload_n 1, 1) := by decide +kernel
theorem dX12_begins_14 : decode cX12_begins 14 = .ok (.iconst 0, 1) := by decide +kernel
theorem dX12_begins_15 : decode cX12_begins 15 = .ok (.iastore, 1) := by decide +kernel
theorem dX12_begins_16 : decode cX12_begins 16 = .ok (.iinc 1 1, 3) := by decide +kernel
theorem dX12_begins_19 : decode cX12_begins 19 = .ok (.goto (-17), 3) := by decide +kernel
theorem dX12_begins_22 : decode cX12_begins 22 = .ok (.iconst 0, 1) := by decide +kernel
theorem dX12_begins_23 : decode cX12_begins 23 = .ok (.istore_n 1, 1) := by decide +kernel
theorem dX12_begins_24 : decode cX12_begins 24 = .ok (.iload_n 1, 1) := by decide +kernel
theorem dX12_begins_25 : decode cX12_begins 25 = .ok (.bipush 84, 2) := by decide +kernel
theorem dX12_begins_27 : decode cX12_begins 27 = .ok (.if_icmp .ge 27, 3) := by decide +kernel
theorem dX12_begins_30 : decode cX12_begins 30 = .ok (.aload_n 0, 1) := by decide +kernel
theorem dX12_begins_31 : decode cX12_begins 31 = .ok (.getfield 97, 3) := by decide +kernel
theorem dX12_begins_34 : decode cX12_begins 34 = .ok (.iload_n 1, 1) := by decide +kernel
theorem dX12_begins_35 : decode cX12_begins 35 = .ok (.iload_n 1, 1) := by decide +kernel
theorem dX12_begins_36 : decode cX12_begins 36 = .ok (.bipush 14, 2) := by decide +kernel
theorem dX12_begins_38 : decode cX12_begins 38 = .ok (.irem, 1) := by decide +kernel
theorem dX12_begins_39 : decode cX12_begins 39 = .ok (.ifCond .ne 7, 3) := by decide +kernel
theorem dX12_begins_42 : decode cX12_begins 42 = .ok (.iconst (-1), 1) := by decide +kernel
theorem dX12_begins_43 : decode cX12_begins 43 = .ok (.goto 4, 3) := by decide +kernel
theorem dX12_begins_46 : decode cX12_begins 46 = .ok (.iconst 0, 1) := by decide +kernel
theorem dX12_begins_47 : decode cX12_begins 47 = .ok (.iastore, 1) := by decide +kernel
theorem dX12_begins_48 : decode cX12_begins 48 = .ok (.iinc 1 1, 3) := by decide +kernel
theorem dX12_begins_51 : decode cX12_begins 51 = .ok (.goto (-27), 3) := by decide +kernel
theorem dX12_begins_54 : decode cX12_begins 54 = .ok (.aload_n 0, 1) := by decide +kernel
theorem dX12_begins_55 : decode cX12_begins 55 = .ok (.getfield 88, 3) := by decide +kernel
theorem dX12_begins_58 : decode cX12_begins 58 = .ok (.iconst 3, 1) := by decide +kernel
theorem dX12_begins_59 : decode cX12_begins 59 = .ok (.sipush 480, 3) := by decide +kernel
theorem dX12_begins_62 : decode cX12_begins 62 = .ok (.iastore, 1) := by decide +kernel
theorem dX12_begins_63 : decode cX12_begins 63 = .ok (.aload_n 0, 1) := by decide +kernel
theorem dX12_begins_64 : decode cX12_begins 64 = .ok (.getfield 88, 3) := by decide +kernel
theorem dX12_begins_67 : decode cX12_begins 67 = .ok (.iconst 4, 1) := by decide +kernel
theorem dX12_begins_68 : decode cX12_begins 68 = .ok (.sipush 960, 3) := by decide +kernel
theorem dX12_begins_71 : decode cX12_begins 71 = .ok (.iastore, 1) := by decide +kernel
theorem dX12_begins_72 : decode cX12_begins 72 = .ok (.aload_n 0, 1) := by decide +kernel
theorem dX12_begins_73 : decode cX12_begins 73 = .ok (.getfield 88, 3) := by decide +kernel
theorem dX12_begins_76 : decode cX12_begins 76 = .ok (.iconst 5, 1) := by decide +kernel
theorem dX12_begins_77 : decode cX12_begins 77 = .ok (.bipush 60, 2) := by decide +kernel
theorem dX12_begins_79 : decode cX12_begins 79 = .ok (.iastore, 1) := by decide +kernel
theorem dX12_begins_80 : decode cX12_begins 80 = .ok (.aload_n 0, 1) := by decide +kernel
theorem dX12_begins_81 : decode cX12_begins 81 = .ok (.getfield 88, 3) := by decide +kernel
theorem dX12_begins_84 : decode cX12_begins 84 = .ok (.bipush 6, 2) := by decide +kernel
theorem dX12_begins_86 : decode cX12_begins 86 = .ok (.bipush 10, 2) := by decide +kernel
theorem dX12_begins_88 : decode cX12_begins 88 = .ok (.iastore, 1) := by decide +kernel
theorem dX12_begins_89 : decode cX12_begins 89 = .ok (.aload_n 0, 1) := by decide +kernel
theorem dX12_begins_90 : decode cX12_begins 90 = .ok (.getfield 88, 3) := by decide +kernel
theorem dX12_begins_93 : decode cX12_begins 93 = .ok (.bipush 7, 2) := by decide +kernel
theorem dX12_begins_95 : decode cX12_begins 95 = .ok (.iconst 5, 1) := by decide +kernel
theorem dX12_begins_96 : decode cX12_begins 96 = .ok (.iastore, 1) := by decide +kernel
theorem dX12_begins_97 : decode cX12_begins 97 = .ok (.aload_n 0, 1) := by decide +kernel
theorem dX12_begins_98 : decode cX12_begins 98 = .ok (.getfield 88, 3) := by decide +kernel
theorem dX12_begins_101 : decode cX12_begins 101 = .ok (.bipush 8, 2) := by decide +kernel
theorem dX12_begins_103 : decode cX12_begins 103 = .ok (.bipush 15, 2) := by decide +kernel
theorem dX12_begins_105 : decode cX12_begins 105 = .ok (.iastore, 1) := by decide +kernel
theorem dX12_begins_106 : decode cX12_begins 106 = .ok (.return_, 1) := by decide +kernel
def f_X12_begins_24 (N : Nat) (R : Nat → Nat → Nat) : Nat → SI → Nat → Int32 → Option (Unit × SI)
  | 0, _, _, _ => none
  | n + 1, σ, x0, x1 => if (84 : Int32) ≤ x1 then (ck (3 : Int32) 417 (sq (up σ (R x0 11) (3 : Int32).toNatClampNeg (480 : Int32)) (fun σ5 => ck (4 : Int32) 417 (sq (up σ5 (R x0 11) (4 : Int32).toNatClampNeg (960 : Int32)) (fun σ8 => ck (5 : Int32) 417 (sq (up σ8 (R x0 11) (5 : Int32).toNatClampNeg (60 : Int32)) (fun σ11 => ck (6 : Int32) 417 (sq (up σ11 (R x0 11) (6 : Int32).toNatClampNeg (10 : Int32)) (fun σ14 => ck (7 : Int32) 417 (sq (up σ14 (R x0 11) (7 : Int32).toNatClampNeg (5 : Int32)) (fun σ17 => ck (8 : Int32) 417 (sq (up σ17 (R x0 11) (8 : Int32).toNatClampNeg (15 : Int32)) (fun σ20 => some ((), σ20)))))))))))))) else (if (x1 - x1 / (14 : Int32) * (14 : Int32)) = 0 then (ck x1 84 (sq (up σ (R x0 14) x1.toNatClampNeg (-1 : Int32)) (fun σ26 => f_X12_begins_24 N R n σ26 x0 (x1 + 1)))) else (ck x1 84 (sq (up σ (R x0 14) x1.toNatClampNeg (0 : Int32)) (fun σ24 => f_X12_begins_24 N R n σ24 x0 (x1 + 1)))))
def f_X12_begins_2 (N : Nat) (R : Nat → Nat → Nat) : Nat → SI → Nat → Int32 → Option (Unit × SI)
  | 0, _, _, _ => none
  | n + 1, σ, x0, x1 => if (417 : Int32) ≤ x1 then (f_X12_begins_24 N R N σ x0 (0 : Int32)) else (ck x1 417 (sq (up σ (R x0 11) x1.toNatClampNeg (0 : Int32)) (fun σ29 => f_X12_begins_2 N R n σ29 x0 (x1 + 1))))
def f_X12_begins (N : Nat) (R : Nat → Nat → Nat) (σ : SI) (x0 : Nat) : Option (Unit × SI) := f_X12_begins_2 N R N σ x0 (0 : Int32)
set_option maxHeartbeats 4000000 in
set_option maxRecDepth 100000 in
theorem w_X12_begins_24 {l : Launch} {g : GL} {p : Program} {e : Jvm.Env} {s : State} {m : MethodId} {args : Array Value} {below : List Frame} {meth : Method} {c : Code} {R : Nat → Nat → Nat} {L : Nat → Nat → Int64} {r : (Unit × SI)} {N : Nat} (C : Cx l g p s m meth c cX12_begins 2 RX12) (hr : meth.sig.returnType = none) (hSh : ShR R) : ∀ (n : Nat) (σ : SI) (x0 : Nat) (x1 : Int32), f_X12_begins_24 N R n σ x0 x1 = some r → Ok 194 x0 12 → ∀ (H : Heap) (locs : List Loc) (ls : Array Slot), S2 g s σ R L H locs → lv_has ls 2 [(0, .ref (gb g + x0)), (1, .int x1)] → W p l e (rmd 1 0 0) s m args below meth c H locs 0 0 (MQ below (Qg g 194 (PV R L r)) args s 0 0 (gA g)) (F0 m 24 ls []) := by
  have hx := C.1
  have hb := C.2.1
  intro n
  induction n with
  | zero =>
    intro σ x0 x1 h
    cases (show (none : Option (Unit × SI)) = some r from h)
  | succ n ih =>
    intro σ x0 x1 h hx0 H locs ls S hl
    rw [f_X12_begins_24] at h
    refine lv_iload_n hx hb dX12_begins_24 rfl (lv_at hl 1 rfl) ?_
    refine lv_bipush (v := (84 : Int32)) hx hb dX12_begins_25 (by decide) ?_
    refine lv_icmp_ge (tgt := 54) hx hb dX12_begins_27 (by decide) (fun c2 => ?_) (fun c2 => ?_)
    · have h := it_p c2 h
      refine lv_aload_n hx hb dX12_begins_54 rfl (lv_at hl 0 rfl) ?_
      have hR3 : Ok 194 (R x0 11) 10417 := hSh x0 12 11 10417 hx0.1 rfl
      refine x_getR C S KX12 hx0 11 (by decide) rfl rfl fl_RX12_88 hR3 dX12_begins_55 ?_
      refine lv_iconst (v := (3 : Int32)) hx hb dX12_begins_58 (by decide) ?_
      refine lv_sipush (v := (480 : Int32)) hx hb dX12_begins_59 (by decide) ?_
      obtain ⟨hi4, h⟩ := ck_el h
      obtain ⟨σ5, hs5, h⟩ := sq_el h
      refine x_iast (len := 417) C S (by decide) hR3 hi4 dX12_begins_62 hs5 (fun H locs S => ?_)
      refine lv_aload_n hx hb dX12_begins_63 rfl (lv_at hl 0 rfl) ?_
      have hR6 : Ok 194 (R x0 11) 10417 := hSh x0 12 11 10417 hx0.1 rfl
      refine x_getR C S KX12 hx0 11 (by decide) rfl rfl fl_RX12_88 hR6 dX12_begins_64 ?_
      refine lv_iconst (v := (4 : Int32)) hx hb dX12_begins_67 (by decide) ?_
      refine lv_sipush (v := (960 : Int32)) hx hb dX12_begins_68 (by decide) ?_
      obtain ⟨hi7, h⟩ := ck_el h
      obtain ⟨σ8, hs8, h⟩ := sq_el h
      refine x_iast (len := 417) C S (by decide) hR6 hi7 dX12_begins_71 hs8 (fun H locs S => ?_)
      refine lv_aload_n hx hb dX12_begins_72 rfl (lv_at hl 0 rfl) ?_
      have hR9 : Ok 194 (R x0 11) 10417 := hSh x0 12 11 10417 hx0.1 rfl
      refine x_getR C S KX12 hx0 11 (by decide) rfl rfl fl_RX12_88 hR9 dX12_begins_73 ?_
      refine lv_iconst (v := (5 : Int32)) hx hb dX12_begins_76 (by decide) ?_
      refine lv_bipush (v := (60 : Int32)) hx hb dX12_begins_77 (by decide) ?_
      obtain ⟨hi10, h⟩ := ck_el h
      obtain ⟨σ11, hs11, h⟩ := sq_el h
      refine x_iast (len := 417) C S (by decide) hR9 hi10 dX12_begins_79 hs11 (fun H locs S => ?_)
      refine lv_aload_n hx hb dX12_begins_80 rfl (lv_at hl 0 rfl) ?_
      have hR12 : Ok 194 (R x0 11) 10417 := hSh x0 12 11 10417 hx0.1 rfl
      refine x_getR C S KX12 hx0 11 (by decide) rfl rfl fl_RX12_88 hR12 dX12_begins_81 ?_
      refine lv_bipush (v := (6 : Int32)) hx hb dX12_begins_84 (by decide) ?_
      refine lv_bipush (v := (10 : Int32)) hx hb dX12_begins_86 (by decide) ?_
      obtain ⟨hi13, h⟩ := ck_el h
      obtain ⟨σ14, hs14, h⟩ := sq_el h
      refine x_iast (len := 417) C S (by decide) hR12 hi13 dX12_begins_88 hs14 (fun H locs S => ?_)
      refine lv_aload_n hx hb dX12_begins_89 rfl (lv_at hl 0 rfl) ?_
      have hR15 : Ok 194 (R x0 11) 10417 := hSh x0 12 11 10417 hx0.1 rfl
      refine x_getR C S KX12 hx0 11 (by decide) rfl rfl fl_RX12_88 hR15 dX12_begins_90 ?_
      refine lv_bipush (v := (7 : Int32)) hx hb dX12_begins_93 (by decide) ?_
      refine lv_iconst (v := (5 : Int32)) hx hb dX12_begins_95 (by decide) ?_
      obtain ⟨hi16, h⟩ := ck_el h
      obtain ⟨σ17, hs17, h⟩ := sq_el h
      refine x_iast (len := 417) C S (by decide) hR15 hi16 dX12_begins_96 hs17 (fun H locs S => ?_)
      refine lv_aload_n hx hb dX12_begins_97 rfl (lv_at hl 0 rfl) ?_
      have hR18 : Ok 194 (R x0 11) 10417 := hSh x0 12 11 10417 hx0.1 rfl
      refine x_getR C S KX12 hx0 11 (by decide) rfl rfl fl_RX12_88 hR18 dX12_begins_98 ?_
      refine lv_bipush (v := (8 : Int32)) hx hb dX12_begins_101 (by decide) ?_
      refine lv_bipush (v := (15 : Int32)) hx hb dX12_begins_103 (by decide) ?_
      obtain ⟨hi19, h⟩ := ck_el h
      obtain ⟨σ20, hs20, h⟩ := sq_el h
      refine x_iast (len := 417) C S (by decide) hR18 hi19 dX12_begins_105 hs20 (fun H locs S => ?_)
      exact x_vret C S hr h dX12_begins_106
    · have h := it_n c2 h
      refine lv_aload_n hx hb dX12_begins_30 rfl (lv_at hl 0 rfl) ?_
      have hR21 : Ok 194 (R x0 14) 10084 := hSh x0 12 14 10084 hx0.1 rfl
      refine x_getR C S KX12 hx0 14 (by decide) rfl rfl fl_RX12_97 hR21 dX12_begins_31 ?_
      refine lv_iload_n hx hb dX12_begins_34 rfl (lv_at hl 1 rfl) ?_
      refine lv_iload_n hx hb dX12_begins_35 rfl (lv_at hl 1 rfl) ?_
      refine lv_bipush (v := (14 : Int32)) hx hb dX12_begins_36 (by decide) ?_
      refine lv_irem hx hb dX12_begins_38 (by decide) ?_
      refine lv_if_ne (tgt := 46) hx hb dX12_begins_39 (by decide) (fun c22 => ?_) (fun c22 => ?_)
      · have h := it_n c22 h
        refine lv_iconst (v := (0 : Int32)) hx hb dX12_begins_46 (by decide) ?_
        obtain ⟨hi23, h⟩ := ck_el h
        obtain ⟨σ24, hs24, h⟩ := sq_el h
        refine x_iast (len := 84) C S (by decide) hR21 hi23 dX12_begins_47 hs24 (fun H locs S => ?_)
        refine lv_iinc (v := x1 + 1) (lv' := [(1, .int (x1 + 1)), (0, .ref (gb g + x0))]) hx hb dX12_begins_48 hl (k := 1) rfl rfl (by decide) rfl (fun ls hl => ?_)
        refine lv_goto (tgt := 24) hx hb dX12_begins_51 (by decide) ?_
        exact ih σ24 x0 (x1 + 1) h hx0 H locs ls S (lv_sub hl [1, 0] rfl)
      · have h := it_p c22 h
        refine lv_iconst (v := (-1 : Int32)) hx hb dX12_begins_42 (by decide) ?_
        refine lv_goto (tgt := 47) hx hb dX12_begins_43 (by decide) ?_
        obtain ⟨hi25, h⟩ := ck_el h
        obtain ⟨σ26, hs26, h⟩ := sq_el h
        refine x_iast (len := 84) C S (by decide) hR21 hi25 dX12_begins_47 hs26 (fun H locs S => ?_)
        refine lv_iinc (v := x1 + 1) (lv' := [(1, .int (x1 + 1)), (0, .ref (gb g + x0))]) hx hb dX12_begins_48 hl (k := 1) rfl rfl (by decide) rfl (fun ls hl => ?_)
        refine lv_goto (tgt := 24) hx hb dX12_begins_51 (by decide) ?_
        exact ih σ26 x0 (x1 + 1) h hx0 H locs ls S (lv_sub hl [1, 0] rfl)
set_option maxHeartbeats 4000000 in
set_option maxRecDepth 100000 in
theorem w_X12_begins_2 {l : Launch} {g : GL} {p : Program} {e : Jvm.Env} {s : State} {m : MethodId} {args : Array Value} {below : List Frame} {meth : Method} {c : Code} {R : Nat → Nat → Nat} {L : Nat → Nat → Int64} {r : (Unit × SI)} {N : Nat} (C : Cx l g p s m meth c cX12_begins 2 RX12) (hr : meth.sig.returnType = none) (hSh : ShR R) : ∀ (n : Nat) (σ : SI) (x0 : Nat) (x1 : Int32), f_X12_begins_2 N R n σ x0 x1 = some r → Ok 194 x0 12 → ∀ (H : Heap) (locs : List Loc) (ls : Array Slot), S2 g s σ R L H locs → lv_has ls 2 [(0, .ref (gb g + x0)), (1, .int x1)] → W p l e (rmd 1 0 0) s m args below meth c H locs 0 0 (MQ below (Qg g 194 (PV R L r)) args s 0 0 (gA g)) (F0 m 2 ls []) := by
  have hx := C.1
  have hb := C.2.1
  intro n
  induction n with
  | zero =>
    intro σ x0 x1 h
    cases (show (none : Option (Unit × SI)) = some r from h)
  | succ n ih =>
    intro σ x0 x1 h hx0 H locs ls S hl
    rw [f_X12_begins_2] at h
    refine lv_iload_n hx hb dX12_begins_2 rfl (lv_at hl 1 rfl) ?_
    refine lv_sipush (v := (417 : Int32)) hx hb dX12_begins_3 (by decide) ?_
    refine lv_icmp_ge (tgt := 22) hx hb dX12_begins_6 (by decide) (fun c1 => ?_) (fun c1 => ?_)
    · have h := it_p c1 h
      refine lv_iconst (v := (0 : Int32)) hx hb dX12_begins_22 (by decide) ?_
      refine lv_istore_n (lv' := [(1, .int (0 : Int32)), (0, .ref (gb g + x0))]) hx hb dX12_begins_23 rfl hl (by decide) rfl (fun ls hl => ?_)
      exact w_X12_begins_24 C hr hSh N σ x0 (0 : Int32) h hx0 H locs ls S (lv_sub hl [1, 0] rfl)
    · have h := it_n c1 h
      refine lv_aload_n hx hb dX12_begins_9 rfl (lv_at hl 0 rfl) ?_
      have hR27 : Ok 194 (R x0 11) 10417 := hSh x0 12 11 10417 hx0.1 rfl
      refine x_getR C S KX12 hx0 11 (by decide) rfl rfl fl_RX12_88 hR27 dX12_begins_10 ?_
      refine lv_iload_n hx hb dX12_begins_13 rfl (lv_at hl 1 rfl) ?_
      refine lv_iconst (v := (0 : Int32)) hx hb dX12_begins_14 (by decide) ?_
      obtain ⟨hi28, h⟩ := ck_el h
      obtain ⟨σ29, hs29, h⟩ := sq_el h
      refine x_iast (len := 417) C S (by decide) hR27 hi28 dX12_begins_15 hs29 (fun H locs S => ?_)
      refine lv_iinc (v := x1 + 1) (lv' := [(1, .int (x1 + 1)), (0, .ref (gb g + x0))]) hx hb dX12_begins_16 hl (k := 1) rfl rfl (by decide) rfl (fun ls hl => ?_)
      refine lv_goto (tgt := 2) hx hb dX12_begins_19 (by decide) ?_
      exact ih σ29 x0 (x1 + 1) h hx0 H locs ls S (lv_sub hl [1, 0] rfl)
set_option maxHeartbeats 4000000 in
set_option maxRecDepth 100000 in
theorem ok_X12_begins {l : Launch} {g : GL} {R : Nat → Nat → Nat} {L : Nat → Nat → Int64} {N : Nat} {σ : SI} {x0 : Nat} {r : (Unit × SI)} (h : f_X12_begins N R σ x0 = some r) (hSh : ShR R) (hx0 : Ok 194 x0 12) : Ct l g 1 yX12_begins cX12_begins 2 none 194 194 0 0 [.ref (gb g + x0)] (mkS σ R L) (PV R L r) := by
  refine Met.ofW (cc := cX12_begins) (maxL := 2) (ret := none) (by decide) rfl ?_
  intro p e s m args below meth c s₁ B hml hv
  obtain ⟨rfl, hE, hLo, hWd⟩ := hv
  have hr : meth.sig.returnType = none := B.returns
  have C : Cx l g p s m meth c cX12_begins 2 RX12 := ⟨B.exec, B.bytes, hml, findClass_of_methodNamed B.named, hE, hLo, B.notSynchronized⟩
  have S : S2 g s σ R L s.heap [] := ⟨hWd, va_S.rf⟩
  have hx := C.1
  have hb := C.2.1
  have hl := lv_entry ([.ref (gb g + x0)]) (n := 2) (Nat.le_of_ble_eq_true rfl)
  rw [lg_entry_eq]
  generalize (lg_sl ([.ref (gb g + x0)]) ++ List.replicate (2 - (lg_sl ([.ref (gb g + x0)])).length) Slot.unset).toArray = ls at hl ⊢
  have hl : lv_has ls 2 [(0, .ref (gb g + x0))] := hl
  generalize hH : s.heap = H at S ⊢
  generalize hlc : ([] : List Loc) = locs at S ⊢
  rw [f_X12_begins] at h
  refine lv_iconst (v := (0 : Int32)) hx hb dX12_begins_0 (by decide) ?_
  refine lv_istore_n (lv' := [(1, .int (0 : Int32)), (0, .ref (gb g + x0))]) hx hb dX12_begins_1 rfl hl (by decide) rfl (fun ls hl => ?_)
  exact w_X12_begins_2 C hr hSh N σ x0 (0 : Int32) h hx0 H locs ls S (lv_sub hl [1, 0] rfl)
theorem dX12_ofNear_0 : decode cX12_ofNear 0 = .ok (.aload_n 0, 1) := by decide +kernel
theorem dX12_ofNear_1 : decode cX12_ofNear 1 = .ok (.getfield 88, 3) := by decide +kernel
theorem dX12_ofNear_4 : decode cX12_ofNear 4 = .ok (.bipush 81, 2) := by decide +kernel
theorem dX12_ofNear_6 : decode cX12_ofNear 6 = .ok (.bipush 18, 2) := by decide +kernel
theorem dX12_ofNear_8 : decode cX12_ofNear 8 = .ok (.iload_n 1, 1) := by decide +kernel
theorem dX12_ofNear_9 : decode cX12_ofNear 9 = .ok (.imul, 1) := by decide +kernel
theorem dX12_ofNear_10 : decode cX12_ofNear 10 = .ok (.iadd, 1) := by decide +kernel
theorem dX12_ofNear_11 : decode cX12_ofNear 11 = .ok (.iload_n 2, 1) := by decide +kernel
theorem dX12_ofNear_12 : decode cX12_ofNear 12 = .ok (.iadd, 1) := by decide +kernel
theorem dX12_ofNear_13 : decode cX12_ofNear 13 = .ok (.iaload, 1) := by decide +kernel
theorem dX12_ofNear_14 : decode cX12_ofNear 14 = .ok (.ireturn, 1) := by decide +kernel
def f_X12_ofNear (N : Nat) (R : Nat → Nat → Nat) (σ : SI) (x0 : Nat) (x1 : Int32) (x2 : Int32) : Option (Int32 × SI) := ck (((81 : Int32) + ((18 : Int32) * x1)) + x2) 417 (some (σ (R x0 11) (((81 : Int32) + ((18 : Int32) * x1)) + x2).toNatClampNeg, σ))
set_option maxHeartbeats 4000000 in
set_option maxRecDepth 100000 in
theorem ok_X12_ofNear {l : Launch} {g : GL} {R : Nat → Nat → Nat} {L : Nat → Nat → Int64} {N : Nat} {σ : SI} {x0 : Nat} {x1 : Int32} {x2 : Int32} {r : (Int32 × SI)} (h : f_X12_ofNear N R σ x0 x1 x2 = some r) (hSh : ShR R) (hx0 : Ok 194 x0 12) : Ct l g 1 yX12_ofNear cX12_ofNear 3 (some .int) 194 194 0 0 [.ref (gb g + x0), .int x1, .int x2] (mkS σ R L) (PI R L r) := by
  refine Met.ofW (cc := cX12_ofNear) (maxL := 3) (ret := (some .int)) (by decide) rfl ?_
  intro p e s m args below meth c s₁ B hml hv
  obtain ⟨rfl, hE, hLo, hWd⟩ := hv
  have hr : meth.sig.returnType = (some .int) := B.returns
  have C : Cx l g p s m meth c cX12_ofNear 3 RX12 := ⟨B.exec, B.bytes, hml, findClass_of_methodNamed B.named, hE, hLo, B.notSynchronized⟩
  have S : S2 g s σ R L s.heap [] := ⟨hWd, va_S.rf⟩
  have hx := C.1
  have hb := C.2.1
  have hl := lv_entry ([.ref (gb g + x0), .int x1, .int x2]) (n := 3) (Nat.le_of_ble_eq_true rfl)
  rw [lg_entry_eq]
  generalize (lg_sl ([.ref (gb g + x0), .int x1, .int x2]) ++ List.replicate (3 - (lg_sl ([.ref (gb g + x0), .int x1, .int x2])).length) Slot.unset).toArray = ls at hl ⊢
  have hl : lv_has ls 3 [(0, .ref (gb g + x0)), (1, .int x1), (2, .int x2)] := hl
  generalize hH : s.heap = H at S ⊢
  generalize hlc : ([] : List Loc) = locs at S ⊢
  rw [f_X12_ofNear] at h
  refine lv_aload_n hx hb dX12_ofNear_0 rfl (lv_at hl 0 rfl) ?_
  have hR1 : Ok 194 (R x0 11) 10417 := hSh x0 12 11 10417 hx0.1 rfl
  refine x_getR C S KX12 hx0 11 (by decide) rfl rfl fl_RX12_88 hR1 dX12_ofNear_1 ?_
  refine lv_bipush (v := (81 : Int32)) hx hb dX12_ofNear_4 (by decide) ?_
  refine lv_bipush (v := (18 : Int32)) hx hb dX12_ofNear_6 (by decide) ?_
  refine lv_iload_n hx hb dX12_ofNear_8 rfl (lv_at hl 1 rfl) ?_
  refine lv_imul hx hb dX12_ofNear_9 ?_
  refine lv_iadd hx hb dX12_ofNear_10 ?_
  refine lv_iload_n hx hb dX12_ofNear_11 rfl (lv_at hl 2 rfl) ?_
  refine lv_iadd hx hb dX12_ofNear_12 ?_
  obtain ⟨hi2, h⟩ := ck_el h
  refine x_iald (len := 417) C S (by decide) hR1 hi2 dX12_ofNear_13 ?_
  exact x_iret C S hr h dX12_ofNear_14
theorem dX12_ofRoad_0 : decode cX12_ofRoad 0 = .ok (.aload_n 0, 1) := by decide +kernel
theorem dX12_ofRoad_1 : decode cX12_ofRoad 1 = .ok (.getfield 88, 3) := by decide +kernel
theorem dX12_ofRoad_4 : decode cX12_ofRoad 4 = .ok (.sipush 225, 3) := by decide +kernel
theorem dX12_ofRoad_7 : decode cX12_ofRoad 7 = .ok (.bipush 10, 2) := by decide +kernel
theorem dX12_ofRoad_9 : decode cX12_ofRoad 9 = .ok (.iload_n 1, 1) := by decide +kernel
theorem dX12_ofRoad_10 : decode cX12_ofRoad 10 = .ok (.imul, 1) := by decide +kernel
theorem dX12_ofRoad_11 : decode cX12_ofRoad 11 = .ok (.iadd, 1) := by decide +kernel
theorem dX12_ofRoad_12 : decode cX12_ofRoad 12 = .ok (.iload_n 2, 1) := by decide +kernel
theorem dX12_ofRoad_13 : decode cX12_ofRoad 13 = .ok (.iadd, 1) := by decide +kernel
theorem dX12_ofRoad_14 : decode cX12_ofRoad 14 = .ok (.iaload, 1) := by decide +kernel
theorem dX12_ofRoad_15 : decode cX12_ofRoad 15 = .ok (.ireturn, 1) := by decide +kernel
def f_X12_ofRoad (N : Nat) (R : Nat → Nat → Nat) (σ : SI) (x0 : Nat) (x1 : Int32) (x2 : Int32) : Option (Int32 × SI) := ck (((225 : Int32) + ((10 : Int32) * x1)) + x2) 417 (some (σ (R x0 11) (((225 : Int32) + ((10 : Int32) * x1)) + x2).toNatClampNeg, σ))
set_option maxHeartbeats 4000000 in
set_option maxRecDepth 100000 in
theorem ok_X12_ofRoad {l : Launch} {g : GL} {R : Nat → Nat → Nat} {L : Nat → Nat → Int64} {N : Nat} {σ : SI} {x0 : Nat} {x1 : Int32} {x2 : Int32} {r : (Int32 × SI)} (h : f_X12_ofRoad N R σ x0 x1 x2 = some r) (hSh : ShR R) (hx0 : Ok 194 x0 12) : Ct l g 1 yX12_ofRoad cX12_ofRoad 3 (some .int) 194 194 0 0 [.ref (gb g + x0), .int x1, .int x2] (mkS σ R L) (PI R L r) := by
  refine Met.ofW (cc := cX12_ofRoad) (maxL := 3) (ret := (some .int)) (by decide) rfl ?_
  intro p e s m args below meth c s₁ B hml hv
  obtain ⟨rfl, hE, hLo, hWd⟩ := hv
  have hr : meth.sig.returnType = (some .int) := B.returns
  have C : Cx l g p s m meth c cX12_ofRoad 3 RX12 := ⟨B.exec, B.bytes, hml, findClass_of_methodNamed B.named, hE, hLo, B.notSynchronized⟩
  have S : S2 g s σ R L s.heap [] := ⟨hWd, va_S.rf⟩
  have hx := C.1
  have hb := C.2.1
  have hl := lv_entry ([.ref (gb g + x0), .int x1, .int x2]) (n := 3) (Nat.le_of_ble_eq_true rfl)
  rw [lg_entry_eq]
  generalize (lg_sl ([.ref (gb g + x0), .int x1, .int x2]) ++ List.replicate (3 - (lg_sl ([.ref (gb g + x0), .int x1, .int x2])).length) Slot.unset).toArray = ls at hl ⊢
  have hl : lv_has ls 3 [(0, .ref (gb g + x0)), (1, .int x1), (2, .int x2)] := hl
  generalize hH : s.heap = H at S ⊢
  generalize hlc : ([] : List Loc) = locs at S ⊢
  rw [f_X12_ofRoad] at h
  refine lv_aload_n hx hb dX12_ofRoad_0 rfl (lv_at hl 0 rfl) ?_
  have hR1 : Ok 194 (R x0 11) 10417 := hSh x0 12 11 10417 hx0.1 rfl
  refine x_getR C S KX12 hx0 11 (by decide) rfl rfl fl_RX12_88 hR1 dX12_ofRoad_1 ?_
  refine lv_sipush (v := (225 : Int32)) hx hb dX12_ofRoad_4 (by decide) ?_
  refine lv_bipush (v := (10 : Int32)) hx hb dX12_ofRoad_7 (by decide) ?_
  refine lv_iload_n hx hb dX12_ofRoad_9 rfl (lv_at hl 1 rfl) ?_
  refine lv_imul hx hb dX12_ofRoad_10 ?_
  refine lv_iadd hx hb dX12_ofRoad_11 ?_
  refine lv_iload_n hx hb dX12_ofRoad_12 rfl (lv_at hl 2 rfl) ?_
  refine lv_iadd hx hb dX12_ofRoad_13 ?_
  obtain ⟨hi2, h⟩ := ck_el h
  refine x_iald (len := 417) C S (by decide) hR1 hi2 dX12_ofRoad_14 ?_
  exact x_iret C S hr h dX12_ofRoad_15
theorem dX12_ofBlast_0 : decode cX12_ofBlast 0 = .ok (.aload_n 0, 1) := by decide +kernel
theorem dX12_ofBlast_1 : decode cX12_ofBlast 1 = .ok (.getfield 88, 3) := by decide +kernel
theorem dX12_ofBlast_4 : decode cX12_ofBlast 4 = .ok (.sipush 285, 3) := by decide +kernel
theorem dX12_ofBlast_7 : decode cX12_ofBlast 7 = .ok (.bipush 22, 2) := by decide +kernel
theorem dX12_ofBlast_9 : decode cX12_ofBlast 9 = .ok (.iload_n 1, 1) := by decide +kernel
theorem dX12_ofBlast_10 : decode cX12_ofBlast 10 = .ok (.imul, 1) := by decide +kernel
theorem dX12_ofBlast_11 : decode cX12_ofBlast 11 = .ok (.iadd, 1) := by decide +kernel
theorem dX12_ofBlast_12 : decode cX12_ofBlast 12 = .ok (.iload_n 2, 1) := by decide +kernel
theorem dX12_ofBlast_13 : decode cX12_ofBlast 13 = .ok (.iadd, 1) := by decide +kernel
theorem dX12_ofBlast_14 : decode cX12_ofBlast 14 = .ok (.iaload, 1) := by decide +kernel
theorem dX12_ofBlast_15 : decode cX12_ofBlast 15 = .ok (.ireturn, 1) := by decide +kernel
def f_X12_ofBlast (N : Nat) (R : Nat → Nat → Nat) (σ : SI) (x0 : Nat) (x1 : Int32) (x2 : Int32) : Option (Int32 × SI) := ck (((285 : Int32) + ((22 : Int32) * x1)) + x2) 417 (some (σ (R x0 11) (((285 : Int32) + ((22 : Int32) * x1)) + x2).toNatClampNeg, σ))
set_option maxHeartbeats 4000000 in
set_option maxRecDepth 100000 in
theorem ok_X12_ofBlast {l : Launch} {g : GL} {R : Nat → Nat → Nat} {L : Nat → Nat → Int64} {N : Nat} {σ : SI} {x0 : Nat} {x1 : Int32} {x2 : Int32} {r : (Int32 × SI)} (h : f_X12_ofBlast N R σ x0 x1 x2 = some r) (hSh : ShR R) (hx0 : Ok 194 x0 12) : Ct l g 1 yX12_ofBlast cX12_ofBlast 3 (some .int) 194 194 0 0 [.ref (gb g + x0), .int x1, .int x2] (mkS σ R L) (PI R L r) := by
  refine Met.ofW (cc := cX12_ofBlast) (maxL := 3) (ret := (some .int)) (by decide) rfl ?_
  intro p e s m args below meth c s₁ B hml hv
  obtain ⟨rfl, hE, hLo, hWd⟩ := hv
  have hr : meth.sig.returnType = (some .int) := B.returns
  have C : Cx l g p s m meth c cX12_ofBlast 3 RX12 := ⟨B.exec, B.bytes, hml, findClass_of_methodNamed B.named, hE, hLo, B.notSynchronized⟩
  have S : S2 g s σ R L s.heap [] := ⟨hWd, va_S.rf⟩
  have hx := C.1
  have hb := C.2.1
  have hl := lv_entry ([.ref (gb g + x0), .int x1, .int x2]) (n := 3) (Nat.le_of_ble_eq_true rfl)
  rw [lg_entry_eq]
  generalize (lg_sl ([.ref (gb g + x0), .int x1, .int x2]) ++ List.replicate (3 - (lg_sl ([.ref (gb g + x0), .int x1, .int x2])).length) Slot.unset).toArray = ls at hl ⊢
  have hl : lv_has ls 3 [(0, .ref (gb g + x0)), (1, .int x1), (2, .int x2)] := hl
  generalize hH : s.heap = H at S ⊢
  generalize hlc : ([] : List Loc) = locs at S ⊢
  rw [f_X12_ofBlast] at h
  refine lv_aload_n hx hb dX12_ofBlast_0 rfl (lv_at hl 0 rfl) ?_
  have hR1 : Ok 194 (R x0 11) 10417 := hSh x0 12 11 10417 hx0.1 rfl
  refine x_getR C S KX12 hx0 11 (by decide) rfl rfl fl_RX12_88 hR1 dX12_ofBlast_1 ?_
  refine lv_sipush (v := (285 : Int32)) hx hb dX12_ofBlast_4 (by decide) ?_
  refine lv_bipush (v := (22 : Int32)) hx hb dX12_ofBlast_7 (by decide) ?_
  refine lv_iload_n hx hb dX12_ofBlast_9 rfl (lv_at hl 1 rfl) ?_
  refine lv_imul hx hb dX12_ofBlast_10 ?_
  refine lv_iadd hx hb dX12_ofBlast_11 ?_
  refine lv_iload_n hx hb dX12_ofBlast_12 rfl (lv_at hl 2 rfl) ?_
  refine lv_iadd hx hb dX12_ofBlast_13 ?_
  obtain ⟨hi2, h⟩ := ck_el h
  refine x_iald (len := 417) C S (by decide) hR1 hi2 dX12_ofBlast_14 ?_
  exact x_iret C S hr h dX12_ofBlast_15
theorem dX12_blasts_0 : decode cX12_blasts 0 = .ok (.aload_n 0, 1) := by decide +kernel
theorem dX12_blasts_1 : decode cX12_blasts 1 = .ok (.getfield 88, 3) := by decide +kernel
theorem dX12_blasts_4 : decode cX12_blasts 4 = .ok (.iconst 2, 1) := by decide +kernel
theorem dX12_blasts_5 : decode cX12_blasts 5 = .ok (.iaload, 1) := by decide +kernel
theorem dX12_blasts_6 : decode cX12_blasts 6 = .ok (.ireturn, 1) := by decide +kernel
def f_X12_blasts (N : Nat) (R : Nat → Nat → Nat) (σ : SI) (x0 : Nat) : Option (Int32 × SI) := ck (2 : Int32) 417 (some (σ (R x0 11) (2 : Int32).toNatClampNeg, σ))
set_option maxHeartbeats 4000000 in
set_option maxRecDepth 100000 in
theorem ok_X12_blasts {l : Launch} {g : GL} {R : Nat → Nat → Nat} {L : Nat → Nat → Int64} {N : Nat} {σ : SI} {x0 : Nat} {r : (Int32 × SI)} (h : f_X12_blasts N R σ x0 = some r) (hSh : ShR R) (hx0 : Ok 194 x0 12) : Ct l g 1 yX12_blasts cX12_blasts 1 (some .int) 194 194 0 0 [.ref (gb g + x0)] (mkS σ R L) (PI R L r) := by
  refine Met.ofW (cc := cX12_blasts) (maxL := 1) (ret := (some .int)) (by decide) rfl ?_
  intro p e s m args below meth c s₁ B hml hv
  obtain ⟨rfl, hE, hLo, hWd⟩ := hv
  have hr : meth.sig.returnType = (some .int) := B.returns
  have C : Cx l g p s m meth c cX12_blasts 1 RX12 := ⟨B.exec, B.bytes, hml, findClass_of_methodNamed B.named, hE, hLo, B.notSynchronized⟩
  have S : S2 g s σ R L s.heap [] := ⟨hWd, va_S.rf⟩
  have hx := C.1
  have hb := C.2.1
  have hl := lv_entry ([.ref (gb g + x0)]) (n := 1) (Nat.le_of_ble_eq_true rfl)
  rw [lg_entry_eq]
  generalize (lg_sl ([.ref (gb g + x0)]) ++ List.replicate (1 - (lg_sl ([.ref (gb g + x0)])).length) Slot.unset).toArray = ls at hl ⊢
  have hl : lv_has ls 1 [(0, .ref (gb g + x0))] := hl
  generalize hH : s.heap = H at S ⊢
  generalize hlc : ([] : List Loc) = locs at S ⊢
  rw [f_X12_blasts] at h
  refine lv_aload_n hx hb dX12_blasts_0 rfl (lv_at hl 0 rfl) ?_
  have hR1 : Ok 194 (R x0 11) 10417 := hSh x0 12 11 10417 hx0.1 rfl
  refine x_getR C S KX12 hx0 11 (by decide) rfl rfl fl_RX12_88 hR1 dX12_blasts_1 ?_
  refine lv_iconst (v := (2 : Int32)) hx hb dX12_blasts_4 (by decide) ?_
  obtain ⟨hi2, h⟩ := ck_el h
  refine x_iald (len := 417) C S (by decide) hR1 hi2 dX12_blasts_5 ?_
  exact x_iret C S hr h dX12_blasts_6
theorem dX12_name_0 : decode cX12_name 0 = .ok (.aload_n 0, 1) := by decide +kernel
theorem dX12_name_1 : decode cX12_name 1 = .ok (.invokevirtual 51, 3) := by decide +kernel
theorem dX12_name_4 : decode cX12_name 4 = .ok (.istore 4, 2) := by decide +kernel
theorem dX12_name_6 : decode cX12_name 6 = .ok (.aload_n 0, 1) := by decide +kernel
theorem dX12_name_7 : decode cX12_name 7 = .ok (.iload 4, 2) := by decide +kernel
theorem dX12_name_9 : decode cX12_name 9 = .ok (.iconst 1, 1) := by decide +kernel
theorem dX12_name_10 : decode cX12_name 10 = .ok (.bipush 6, 2) := by decide +kernel
theorem dX12_name_12 : decode cX12_name 12 = .ok (.invokestatic 71, 3) := by decide +kernel
theorem dX12_name_15 : decode cX12_name 15 = .ok (.iconst 1, 1) := by decide +kernel
theorem dX12_name_16 : decode cX12_name 16 = .ok (.invokevirtual 67, 3) := by decide +kernel
theorem dX12_name_19 : decode cX12_name 19 = .ok (.aload_n 0, 1) := by decide +kernel
theorem dX12_name_20 : decode cX12_name 20 = .ok (.invokevirtual 40, 3) := by decide +kernel
theorem dX12_name_23 : decode cX12_name 23 = .ok (.ifCond .eq 4, 3) := by decide +kernel
theorem dX12_name_26 : decode cX12_name 26 = .ok (.return_, 1) := by decide +kernel
theorem dX12_name_27 : decode cX12_name 27 = .ok (.iload_n 1, 1) := by decide +kernel
theorem dX12_name_28 : decode cX12_name 28 = .ok (.iload_n 2, 1) := by decide +kernel
theorem dX12_name_29 : decode cX12_name 29 = .ok (.iload_n 3, 1) := by decide +kernel
theorem dX12_name_30 : decode cX12_name 30 = .ok (.imul, 1) := by decide +kernel
theorem dX12_name_31 : decode cX12_name 31 = .ok (.iadd, 1) := by decide +kernel
theorem dX12_name_32 : decode cX12_name 32 = .ok (.istore 5, 2) := by decide +kernel
theorem dX12_name_34 : decode cX12_name 34 = .ok (.iconst 0, 1) := by decide +kernel
theorem dX12_name_35 : decode cX12_name 35 = .ok (.istore 6, 2) := by decide +kernel
theorem dX12_name_37 : decode cX12_name 37 = .ok (.iload 6, 2) := by decide +kernel
theorem dX12_name_39 : decode cX12_name 39 = .ok (.bipush 6, 2) := by decide +kernel
theorem dX12_name_41 : decode cX12_name 41 = .ok (.if_icmp .ge 42, 3) := by decide +kernel
theorem dX12_name_44 : decode cX12_name 44 = .ok (.aload_n 0, 1) := by decide +kernel
theorem dX12_name_45 : decode cX12_name 45 = .ok (.getfield 88, 3) := by decide +kernel
theorem dX12_name_48 : decode cX12_name 48 = .ok (.iload 5, 2) := by decide +kernel
theorem dX12_name_50 : decode cX12_name 50 = .ok (.iload 6, 2) := by decide +kernel
theorem dX12_name_52 : decode cX12_name 52 = .ok (.iadd, 1) := by decide +kernel
theorem dX12_name_53 : decode cX12_name 53 = .ok (.iload 6, 2) := by decide +kernel
theorem dX12_name_55 : decode cX12_name 55 = .ok (.iload 4, 2) := by decide +kernel
theorem dX12_name_57 : decode cX12_name 57 = .ok (.if_icmp .ge 18, 3) := by decide +kernel
theorem dX12_name_60 : decode cX12_name 60 = .ok (.aload_n 0, 1) := by decide +kernel
theorem dX12_name_61 : decode cX12_name 61 = .ok (.getfield 14, 3) := by decide +kernel
theorem dX12_name_64 : decode cX12_name 64 = .ok (.aload_n 0, 1) := by decide +kernel
theorem dX12_name_65 : decode cX12_name 65 = .ok (.getfield 27, 3) := by decide +kernel
theorem dX12_name_68 : decode cX12_name 68 = .ok (.iload 6, 2) := by decide +kernel
theorem dX12_name_70 : decode cX12_name 70 = .ok (.iadd, 1) := by decide +kernel
theorem dX12_name_71 : decode cX12_name 71 = .ok (.baload, 1) := by decide +kernel
theorem dX12_name_72 : decode cX12_name 72 = .ok (.goto 4, 3) := by decide +kernel
theorem dX12_name_75 : decode cX12_name 75 = .ok (.iconst 0, 1) := by decide +kernel
theorem dX12_name_76 : decode cX12_name 76 = .ok (.iastore, 1) := by decide +kernel
theorem dX12_name_77 : decode cX12_name 77 = .ok (.iinc 6 1, 3) := by decide +kernel
theorem dX12_name_80 : decode cX12_name 80 = .ok (.goto (-43), 3) := by decide +kernel
theorem dX12_name_83 : decode cX12_name 83 = .ok (.iconst 0, 1) := by decide +kernel
theorem dX12_name_84 : decode cX12_name 84 = .ok (.istore 6, 2) := by decide +kernel
theorem dX12_name_86 : decode cX12_name 86 = .ok (.iload 6, 2) := by decide +kernel
theorem dX12_name_88 : decode cX12_name 88 = .ok (.iload_n 3, 1) := by decide +kernel
theorem dX12_name_89 : decode cX12_name 89 = .ok (.if_icmp .ge 82, 3) := by decide +kernel
theorem dX12_name_92 : decode cX12_name 92 = .ok (.iconst 1, 1) := by decide +kernel
theorem dX12_name_93 : decode cX12_name 93 = .ok (.istore 7, 2) := by decide +kernel
theorem dX12_name_95 : decode cX12_name 95 = .ok (.iconst 0, 1) := by decide +kernel
theorem dX12_name_96 : decode cX12_name 96 = .ok (.istore 8, 2) := by decide +kernel
theorem dX12_name_98 : decode cX12_name 98 = .ok (.iload 8, 2) := by decide +kernel
theorem dX12_name_100 : decode cX12_name 100 = .ok (.bipush 6, 2) := by decide +kernel
theorem dX12_name_102 : decode cX12_name 102 = .ok (.if_icmp .ge 48, 3) := by decide +kernel
theorem dX12_name_105 : decode cX12_name 105 = .ok (.iload 7, 2) := by decide +kernel
theorem dX12_name_107 : decode cX12_name 107 = .ok (.ifCond .eq 34, 3) := by decide +kernel
theorem dX12_name_110 : decode cX12_name 110 = .ok (.aload_n 0, 1) := by decide +kernel
theorem dX12_name_111 : decode cX12_name 111 = .ok (.getfield 88, 3) := by decide +kernel
theorem dX12_name_114 : decode cX12_name 114 = .ok (.iload_n 1, 1) := by decide +kernel
theorem dX12_name_115 : decode cX12_name 115 = .ok (.iload_n 2, 1) := by decide +kernel
theorem dX12_name_116 : decode cX12_name 116 = .ok (.iload 6, 2) := by decide +kernel
theorem dX12_name_118 : decode cX12_name 118 = .ok (.imul, 1) := by decide +kernel
theorem dX12_name_119 : decode cX12_name 119 = .ok (.iadd, 1) := by decide +kernel
theorem dX12_name_120 : decode cX12_name 120 = .ok (.iload 8, 2) := by decide +kernel
theorem dX12_name_122 : decode cX12_name 122 = .ok (.iadd, 1) := by decide +kernel
theorem dX12_name_123 : decode cX12_name 123 = .ok (.iaload, 1) := by decide +kernel
theorem dX12_name_124 : decode cX12_name 124 = .ok (.aload_n 0, 1) := by decide +kernel
theorem dX12_name_125 : decode cX12_name 125 = .ok (.getfield 88, 3) := by decide +kernel
theorem dX12_name_128 : decode cX12_name 128 = .ok (.iload 5, 2) := by decide +kernel
theorem dX12_name_130 : decode cX12_name 130 = .ok (.iload 8, 2) := by decide +kernel
theorem dX12_name_132 : decode cX12_name 132 = .ok (.iadd, 1) := by decide +kernel
theorem dX12_name_133 : decode cX12_name 133 = .ok (.iaload, 1) := by decide +kernel
theorem dX12_name_134 : decode cX12_name 134 = .ok (.if_icmp .ne 7, 3) := by decide +kernel
theorem dX12_name_137 : decode cX12_name 137 = .ok (.iconst 1, 1) := by decide +kernel
theorem dX12_name_138 : decode cX12_name 138 = .ok (.goto 4, 3) := by decide +kernel
theorem dX12_name_141 : decode cX12_name 141 = .ok (.iconst 0, 1) := by decide +kernel
theorem dX12_name_142 : decode cX12_name 142 = .ok (.istore 7, 2) := by decide +kernel
theorem dX12_name_144 : decode cX12_name 144 = .ok (.iinc 8 1, 3) := by decide +kernel
theorem dX12_name_147 : decode cX12_name 147 = .ok (.goto (-49), 3) := by decide +kernel
theorem dX12_name_150 : decode cX12_name 150 = .ok (.aload_n 0, 1) := by decide +kernel
theorem dX12_name_151 : decode cX12_name 151 = .ok (.iload 7, 2) := by decide +kernel
theorem dX12_name_153 : decode cX12_name 153 = .ok (.ifCond .ne 7, 3) := by decide +kernel
theorem dX12_name_156 : decode cX12_name 156 = .ok (.iconst 1, 1) := by decide +kernel
theorem dX12_name_157 : decode cX12_name 157 = .ok (.goto 4, 3) := by decide +kernel
theorem dX12_name_160 : decode cX12_name 160 = .ok (.iconst 0, 1) := by decide +kernel
theorem dX12_name_161 : decode cX12_name 161 = .ok (.iconst 3, 1) := by decide +kernel
theorem dX12_name_162 : decode cX12_name 162 = .ok (.invokevirtual 67, 3) := by decide +kernel
theorem dX12_name_165 : decode cX12_name 165 = .ok (.iinc 6 1, 3) := by decide +kernel
theorem dX12_name_168 : decode cX12_name 168 = .ok (.goto (-82), 3) := by decide +kernel
theorem dX12_name_171 : decode cX12_name 171 = .ok (.aload_n 0, 1) := by decide +kernel
theorem dX12_name_172 : decode cX12_name 172 = .ok (.dup, 1) := by decide +kernel
theorem dX12_name_173 : decode cX12_name 173 = .ok (.getfield 27, 3) := by decide +kernel
theorem dX12_name_176 : decode cX12_name 176 = .ok (.iload 4, 2) := by decide +kernel
theorem dX12_name_178 : decode cX12_name 178 = .ok (.iadd, 1) := by decide +kernel
theorem dX12_name_179 : decode cX12_name 179 = .ok (.putfield 27, 3) := by decide +kernel
theorem dX12_name_182 : decode cX12_name 182 = .ok (.return_, 1) := by decide +kernel
def f_X12_name_141 (N : Nat) (R : Nat → Nat → Nat) (k86 : SI → Nat → Int32 → Int32 → Int32 → Int32 → Int32 → Int32 → Option (Unit × SI)) (k98 : SI → Nat → Int32 → Int32 → Int32 → Int32 → Int32 → Int32 → Int32 → Int32 → Option (Unit × SI)) (σ : SI) (x0 : Nat) (x1 : Int32) (x2 : Int32) (x3 : Int32) (x4 : Int32) (x5 : Int32) (x6 : Int32) (x8 : Int32) : Option (Unit × SI) := k98 σ x0 x1 x2 x3 x4 x5 x6 (0 : Int32) (x8 + 1)
def f_X12_name_98 (N : Nat) (R : Nat → Nat → Nat) (k86 : SI → Nat → Int32 → Int32 → Int32 → Int32 → Int32 → Int32 → Option (Unit × SI)) : Nat → SI → Nat → Int32 → Int32 → Int32 → Int32 → Int32 → Int32 → Int32 → Int32 → Option (Unit × SI)
  | 0, _, _, _, _, _, _, _, _, _, _ => none
  | n + 1, σ, x0, x1, x2, x3, x4, x5, x6, x7, x8 => if (6 : Int32) ≤ x8 then (if x7 = 0 then (bd (f_X12_must N R σ x0 (1 : Int32) (3 : Int32)) (fun _ σ12 => k86 σ12 x0 x1 x2 x3 x4 x5 (x6 + 1))) else (bd (f_X12_must N R σ x0 (0 : Int32) (3 : Int32)) (fun _ σ11 => k86 σ11 x0 x1 x2 x3 x4 x5 (x6 + 1)))) else (if x7 = 0 then (f_X12_name_141 N R k86 (fun σ x0 x1 x2 x3 x4 x5 x6 x7 x8 => f_X12_name_98 N R k86 n σ x0 x1 x2 x3 x4 x5 x6 x7 x8) σ x0 x1 x2 x3 x4 x5 x6 x8) else (ck ((x1 + (x2 * x6)) + x8) 417 (ck (x5 + x8) 417 (if (σ (R x0 11) ((x1 + (x2 * x6)) + x8).toNatClampNeg) = (σ (R x0 11) (x5 + x8).toNatClampNeg) then (f_X12_name_98 N R k86 n σ x0 x1 x2 x3 x4 x5 x6 (1 : Int32) (x8 + 1)) else (f_X12_name_141 N R k86 (fun σ x0 x1 x2 x3 x4 x5 x6 x7 x8 => f_X12_name_98 N R k86 n σ x0 x1 x2 x3 x4 x5 x6 x7 x8) σ x0 x1 x2 x3 x4 x5 x6 x8)))))
def f_X12_name_86 (N : Nat) (R : Nat → Nat → Nat) : Nat → SI → Nat → Int32 → Int32 → Int32 → Int32 → Int32 → Int32 → Option (Unit × SI)
  | 0, _, _, _, _, _, _, _, _ => none
  | n + 1, σ, x0, x1, x2, x3, x4, x5, x6 => if x3 ≤ x6 then (sq (up σ x0 4 ((σ x0 4) + x4)) (fun σ8 => some ((), σ8))) else (f_X12_name_98 N R (fun σ x0 x1 x2 x3 x4 x5 x6 => f_X12_name_86 N R n σ x0 x1 x2 x3 x4 x5 x6) N σ x0 x1 x2 x3 x4 x5 x6 (1 : Int32) (0 : Int32))
def f_X12_name_37 (N : Nat) (R : Nat → Nat → Nat) : Nat → SI → Nat → Int32 → Int32 → Int32 → Int32 → Int32 → Int32 → Option (Unit × SI)
  | 0, _, _, _, _, _, _, _, _ => none
  | n + 1, σ, x0, x1, x2, x3, x4, x5, x6 => if (6 : Int32) ≤ x6 then (f_X12_name_86 N R N σ x0 x1 x2 x3 x4 x5 (0 : Int32)) else (if x4 ≤ x6 then (ck (x5 + x6) 417 (sq (up σ (R x0 11) (x5 + x6).toNatClampNeg (0 : Int32)) (fun σ22 => f_X12_name_37 N R n σ22 x0 x1 x2 x3 x4 x5 (x6 + 1)))) else (ck ((σ x0 4) + x6) 800 (ck (x5 + x6) 417 (sq (up σ (R x0 11) (x5 + x6).toNatClampNeg (σ (R x0 1) ((σ x0 4) + x6).toNatClampNeg)) (fun σ26 => f_X12_name_37 N R n σ26 x0 x1 x2 x3 x4 x5 (x6 + 1))))))
def f_X12_name (N : Nat) (R : Nat → Nat → Nat) (σ : SI) (x0 : Nat) (x1 : Int32) (x2 : Int32) (x3 : Int32) : Option (Unit × SI) := bd (f_X12_letters N R σ x0) (fun a1 σ1 => bd (f_X12_in N R σ1 a1 (1 : Int32) (6 : Int32)) (fun a2 σ2 => bd (f_X12_must N R σ2 x0 a2 (1 : Int32)) (fun _ σ3 => bd (f_X12_hasFailed N R σ3 x0) (fun a4 σ4 => if a4 = 0 then (f_X12_name_37 N R N σ4 x0 x1 x2 x3 a1 (x1 + (x2 * x3)) (0 : Int32)) else (some ((), σ4))))))
set_option maxHeartbeats 4000000 in
set_option maxRecDepth 100000 in
theorem w_X12_name_141 {l : Launch} {g : GL} {p : Program} {e : Jvm.Env} {s : State} {m : MethodId} {args : Array Value} {below : List Frame} {meth : Method} {c : Code} {R : Nat → Nat → Nat} {L : Nat → Nat → Int64} {r : (Unit × SI)} {N : Nat} {k86 : SI → Nat → Int32 → Int32 → Int32 → Int32 → Int32 → Int32 → Option (Unit × SI)} {k98 : SI → Nat → Int32 → Int32 → Int32 → Int32 → Int32 → Int32 → Int32 → Int32 → Option (Unit × SI)} (C : Cx l g p s m meth c cX12_name 9 RX12) (hr : meth.sig.returnType = none) (hSh : ShR R) (hk86 : ∀ (σ : SI) (x0 : Nat) (x1 : Int32) (x2 : Int32) (x3 : Int32) (x4 : Int32) (x5 : Int32) (x6 : Int32), k86 σ x0 x1 x2 x3 x4 x5 x6 = some r → Ok 194 x0 12 → ∀ (H : Heap) (locs : List Loc) (ls : Array Slot), S2 g s σ R L H locs → lv_has ls 9 [(0, .ref (gb g + x0)), (1, .int x1), (2, .int x2), (3, .int x3), (4, .int x4), (5, .int x5), (6, .int x6)] → W p l e (rmd 4 0 0) s m args below meth c H locs 0 0 (MQ below (Qg g 194 (PV R L r)) args s 0 0 (gA g)) (F0 m 86 ls [])) (hk98 : ∀ (σ : SI) (x0 : Nat) (x1 : Int32) (x2 : Int32) (x3 : Int32) (x4 : Int32) (x5 : Int32) (x6 : Int32) (x7 : Int32) (x8 : Int32), k98 σ x0 x1 x2 x3 x4 x5 x6 x7 x8 = some r → Ok 194 x0 12 → ∀ (H : Heap) (locs : List Loc) (ls : Array Slot), S2 g s σ R L H locs → lv_has ls 9 [(0, .ref (gb g + x0)), (1, .int x1), (2, .int x2), (3, .int x3), (4, .int x4), (5, .int x5), (6, .int x6), (7, .int x7), (8, .int x8)] → W p l e (rmd 4 0 0) s m args below meth c H locs 0 0 (MQ below (Qg g 194 (PV R L r)) args s 0 0 (gA g)) (F0 m 98 ls [])) : ∀ (σ : SI) (x0 : Nat) (x1 : Int32) (x2 : Int32) (x3 : Int32) (x4 : Int32) (x5 : Int32) (x6 : Int32) (x8 : Int32), f_X12_name_141 N R k86 k98 σ x0 x1 x2 x3 x4 x5 x6 x8 = some r → Ok 194 x0 12 → ∀ (H : Heap) (locs : List Loc) (ls : Array Slot), S2 g s σ R L H locs → lv_has ls 9 [(0, .ref (gb g + x0)), (1, .int x1), (2, .int x2), (3, .int x3), (4, .int x4), (5, .int x5), (6, .int x6), (8, .int x8)] → W p l e (rmd 4 0 0) s m args below meth c H locs 0 0 (MQ below (Qg g 194 (PV R L r)) args s 0 0 (gA g)) (F0 m 141 ls []) := by
  have hx := C.1
  have hb := C.2.1
  intro σ x0 x1 x2 x3 x4 x5 x6 x8 h hx0 H locs ls S hl
  rw [f_X12_name_141] at h
  refine lv_iconst (v := (0 : Int32)) hx hb dX12_name_141 (by decide) ?_
  refine lv_istore (lv' := [(7, .int (0 : Int32)), (0, .ref (gb g + x0)), (1, .int x1), (2, .int x2), (3, .int x3), (4, .int x4), (5, .int x5), (6, .int x6), (8, .int x8)]) hx hb dX12_name_142 hl (by decide) rfl (fun ls hl => ?_)
  refine lv_iinc (v := x8 + 1) (lv' := [(8, .int (x8 + 1)), (7, .int (0 : Int32)), (0, .ref (gb g + x0)), (1, .int x1), (2, .int x2), (3, .int x3), (4, .int x4), (5, .int x5), (6, .int x6)]) hx hb dX12_name_144 hl (k := 8) rfl rfl (by decide) rfl (fun ls hl => ?_)
  refine lv_goto (tgt := 98) hx hb dX12_name_147 (by decide) ?_
  exact hk98 σ x0 x1 x2 x3 x4 x5 x6 (0 : Int32) (x8 + 1) h hx0 H locs ls S (lv_sub hl [2, 3, 4, 5, 6, 7, 8, 1, 0] rfl)
set_option maxHeartbeats 4000000 in
set_option maxRecDepth 100000 in
theorem w_X12_name_98 {l : Launch} {g : GL} {p : Program} {e : Jvm.Env} {s : State} {m : MethodId} {args : Array Value} {below : List Frame} {meth : Method} {c : Code} {R : Nat → Nat → Nat} {L : Nat → Nat → Int64} {r : (Unit × SI)} {N : Nat} {k86 : SI → Nat → Int32 → Int32 → Int32 → Int32 → Int32 → Int32 → Option (Unit × SI)} (C : Cx l g p s m meth c cX12_name 9 RX12) (hr : meth.sig.returnType = none) (hSh : ShR R) (hk86 : ∀ (σ : SI) (x0 : Nat) (x1 : Int32) (x2 : Int32) (x3 : Int32) (x4 : Int32) (x5 : Int32) (x6 : Int32), k86 σ x0 x1 x2 x3 x4 x5 x6 = some r → Ok 194 x0 12 → ∀ (H : Heap) (locs : List Loc) (ls : Array Slot), S2 g s σ R L H locs → lv_has ls 9 [(0, .ref (gb g + x0)), (1, .int x1), (2, .int x2), (3, .int x3), (4, .int x4), (5, .int x5), (6, .int x6)] → W p l e (rmd 4 0 0) s m args below meth c H locs 0 0 (MQ below (Qg g 194 (PV R L r)) args s 0 0 (gA g)) (F0 m 86 ls [])) : ∀ (n : Nat) (σ : SI) (x0 : Nat) (x1 : Int32) (x2 : Int32) (x3 : Int32) (x4 : Int32) (x5 : Int32) (x6 : Int32) (x7 : Int32) (x8 : Int32), f_X12_name_98 N R k86 n σ x0 x1 x2 x3 x4 x5 x6 x7 x8 = some r → Ok 194 x0 12 → ∀ (H : Heap) (locs : List Loc) (ls : Array Slot), S2 g s σ R L H locs → lv_has ls 9 [(0, .ref (gb g + x0)), (1, .int x1), (2, .int x2), (3, .int x3), (4, .int x4), (5, .int x5), (6, .int x6), (7, .int x7), (8, .int x8)] → W p l e (rmd 4 0 0) s m args below meth c H locs 0 0 (MQ below (Qg g 194 (PV R L r)) args s 0 0 (gA g)) (F0 m 98 ls []) := by
  have hx := C.1
  have hb := C.2.1
  intro n
  induction n with
  | zero =>
    intro σ x0 x1 x2 x3 x4 x5 x6 x7 x8 h
    cases (show (none : Option (Unit × SI)) = some r from h)
  | succ n ih =>
    intro σ x0 x1 x2 x3 x4 x5 x6 x7 x8 h hx0 H locs ls S hl
    rw [f_X12_name_98] at h
    refine lv_iload hx hb dX12_name_98 (lv_at hl 8 rfl) ?_
    refine lv_bipush (v := (6 : Int32)) hx hb dX12_name_100 (by decide) ?_
    refine lv_icmp_ge (tgt := 150) hx hb dX12_name_102 (by decide) (fun c9 => ?_) (fun c9 => ?_)
    · have h := it_p c9 h
      refine lv_aload_n hx hb dX12_name_150 rfl (lv_at hl 0 rfl) ?_
      refine lv_iload hx hb dX12_name_151 (lv_at hl 7 rfl) ?_
      refine lv_if_ne (tgt := 160) hx hb dX12_name_153 (by decide) (fun c10 => ?_) (fun c10 => ?_)
      · have h := it_n c10 h
        refine lv_iconst (v := (0 : Int32)) hx hb dX12_name_160 (by decide) ?_
        refine lv_iconst (v := (3 : Int32)) hx hb dX12_name_161 (by decide) ?_
        obtain ⟨a11, σ11, hc11, h⟩ := bd_el h
        refine x_callVV C S KX12 hx0 (ok_X12_must (L := L) hc11 hSh hx0) ⟨cd_X12_must, ni_RX12, ml_RX12_67, in_X12_must, sl_X12_must⟩ ⟨by decide, by decide⟩ rfl ⟨by decide, by decide⟩ hl.1 rfl (Nat.le_of_ble_eq_true rfl) ⟨by decide, by decide⟩ dX12_name_162 (fun H locs S => ?_)
        refine lv_iinc (v := x6 + 1) (lv' := [(6, .int (x6 + 1)), (0, .ref (gb g + x0)), (1, .int x1), (2, .int x2), (3, .int x3), (4, .int x4), (5, .int x5), (7, .int x7), (8, .int x8)]) hx hb dX12_name_165 hl (k := 6) rfl rfl (by decide) rfl (fun ls hl => ?_)
        refine lv_goto (tgt := 86) hx hb dX12_name_168 (by decide) ?_
        exact hk86 σ11 x0 x1 x2 x3 x4 x5 (x6 + 1) h hx0 H locs ls S (lv_sub hl [1, 2, 3, 4, 5, 6, 0] rfl)
      · have h := it_p c10 h
        refine lv_iconst (v := (1 : Int32)) hx hb dX12_name_156 (by decide) ?_
        refine lv_goto (tgt := 161) hx hb dX12_name_157 (by decide) ?_
        refine lv_iconst (v := (3 : Int32)) hx hb dX12_name_161 (by decide) ?_
        obtain ⟨a12, σ12, hc12, h⟩ := bd_el h
        refine x_callVV C S KX12 hx0 (ok_X12_must (L := L) hc12 hSh hx0) ⟨cd_X12_must, ni_RX12, ml_RX12_67, in_X12_must, sl_X12_must⟩ ⟨by decide, by decide⟩ rfl ⟨by decide, by decide⟩ hl.1 rfl (Nat.le_of_ble_eq_true rfl) ⟨by decide, by decide⟩ dX12_name_162 (fun H locs S => ?_)
        refine lv_iinc (v := x6 + 1) (lv' := [(6, .int (x6 + 1)), (0, .ref (gb g + x0)), (1, .int x1), (2, .int x2), (3, .int x3), (4, .int x4), (5, .int x5), (7, .int x7), (8, .int x8)]) hx hb dX12_name_165 hl (k := 6) rfl rfl (by decide) rfl (fun ls hl => ?_)
        refine lv_goto (tgt := 86) hx hb dX12_name_168 (by decide) ?_
        exact hk86 σ12 x0 x1 x2 x3 x4 x5 (x6 + 1) h hx0 H locs ls S (lv_sub hl [1, 2, 3, 4, 5, 6, 0] rfl)
    · have h := it_n c9 h
      refine lv_iload hx hb dX12_name_105 (lv_at hl 7 rfl) ?_
      refine lv_if_eq (tgt := 141) hx hb dX12_name_107 (by decide) (fun c13 => ?_) (fun c13 => ?_)
      · have h := it_p c13 h
        exact w_X12_name_141 C hr hSh hk86 ih σ x0 x1 x2 x3 x4 x5 x6 x8 h hx0 H locs ls S (lv_sub hl [0, 1, 2, 3, 4, 5, 6, 8] rfl)
      · have h := it_n c13 h
        refine lv_aload_n hx hb dX12_name_110 rfl (lv_at hl 0 rfl) ?_
        have hR14 : Ok 194 (R x0 11) 10417 := hSh x0 12 11 10417 hx0.1 rfl
        refine x_getR C S KX12 hx0 11 (by decide) rfl rfl fl_RX12_88 hR14 dX12_name_111 ?_
        refine lv_iload_n hx hb dX12_name_114 rfl (lv_at hl 1 rfl) ?_
        refine lv_iload_n hx hb dX12_name_115 rfl (lv_at hl 2 rfl) ?_
        refine lv_iload hx hb dX12_name_116 (lv_at hl 6 rfl) ?_
        refine lv_imul hx hb dX12_name_118 ?_
        refine lv_iadd hx hb dX12_name_119 ?_
        refine lv_iload hx hb dX12_name_120 (lv_at hl 8 rfl) ?_
        refine lv_iadd hx hb dX12_name_122 ?_
        obtain ⟨hi15, h⟩ := ck_el h
        refine x_iald (len := 417) C S (by decide) hR14 hi15 dX12_name_123 ?_
        refine lv_aload_n hx hb dX12_name_124 rfl (lv_at hl 0 rfl) ?_
        have hR16 : Ok 194 (R x0 11) 10417 := hSh x0 12 11 10417 hx0.1 rfl
        refine x_getR C S KX12 hx0 11 (by decide) rfl rfl fl_RX12_88 hR16 dX12_name_125 ?_
        refine lv_iload hx hb dX12_name_128 (lv_at hl 5 rfl) ?_
        refine lv_iload hx hb dX12_name_130 (lv_at hl 8 rfl) ?_
        refine lv_iadd hx hb dX12_name_132 ?_
        obtain ⟨hi17, h⟩ := ck_el h
        refine x_iald (len := 417) C S (by decide) hR16 hi17 dX12_name_133 ?_
        refine lv_icmp_ne (tgt := 141) hx hb dX12_name_134 (by decide) (fun c18 => ?_) (fun c18 => ?_)
        · have h := it_n c18 h
          exact w_X12_name_141 C hr hSh hk86 ih σ x0 x1 x2 x3 x4 x5 x6 x8 h hx0 H locs ls S (lv_sub hl [0, 1, 2, 3, 4, 5, 6, 8] rfl)
        · have h := it_p c18 h
          refine lv_iconst (v := (1 : Int32)) hx hb dX12_name_137 (by decide) ?_
          refine lv_goto (tgt := 142) hx hb dX12_name_138 (by decide) ?_
          refine lv_istore (lv' := [(7, .int (1 : Int32)), (0, .ref (gb g + x0)), (1, .int x1), (2, .int x2), (3, .int x3), (4, .int x4), (5, .int x5), (6, .int x6), (8, .int x8)]) hx hb dX12_name_142 hl (by decide) rfl (fun ls hl => ?_)
          refine lv_iinc (v := x8 + 1) (lv' := [(8, .int (x8 + 1)), (7, .int (1 : Int32)), (0, .ref (gb g + x0)), (1, .int x1), (2, .int x2), (3, .int x3), (4, .int x4), (5, .int x5), (6, .int x6)]) hx hb dX12_name_144 hl (k := 8) rfl rfl (by decide) rfl (fun ls hl => ?_)
          refine lv_goto (tgt := 98) hx hb dX12_name_147 (by decide) ?_
          exact ih σ x0 x1 x2 x3 x4 x5 x6 (1 : Int32) (x8 + 1) h hx0 H locs ls S (lv_sub hl [2, 3, 4, 5, 6, 7, 8, 1, 0] rfl)
set_option maxHeartbeats 4000000 in
set_option maxRecDepth 100000 in
theorem w_X12_name_86 {l : Launch} {g : GL} {p : Program} {e : Jvm.Env} {s : State} {m : MethodId} {args : Array Value} {below : List Frame} {meth : Method} {c : Code} {R : Nat → Nat → Nat} {L : Nat → Nat → Int64} {r : (Unit × SI)} {N : Nat} (C : Cx l g p s m meth c cX12_name 9 RX12) (hr : meth.sig.returnType = none) (hSh : ShR R) : ∀ (n : Nat) (σ : SI) (x0 : Nat) (x1 : Int32) (x2 : Int32) (x3 : Int32) (x4 : Int32) (x5 : Int32) (x6 : Int32), f_X12_name_86 N R n σ x0 x1 x2 x3 x4 x5 x6 = some r → Ok 194 x0 12 → ∀ (H : Heap) (locs : List Loc) (ls : Array Slot), S2 g s σ R L H locs → lv_has ls 9 [(0, .ref (gb g + x0)), (1, .int x1), (2, .int x2), (3, .int x3), (4, .int x4), (5, .int x5), (6, .int x6)] → W p l e (rmd 4 0 0) s m args below meth c H locs 0 0 (MQ below (Qg g 194 (PV R L r)) args s 0 0 (gA g)) (F0 m 86 ls []) := by
  have hx := C.1
  have hb := C.2.1
  intro n
  induction n with
  | zero =>
    intro σ x0 x1 x2 x3 x4 x5 x6 h
    cases (show (none : Option (Unit × SI)) = some r from h)
  | succ n ih =>
    intro σ x0 x1 x2 x3 x4 x5 x6 h hx0 H locs ls S hl
    rw [f_X12_name_86] at h
    refine lv_iload hx hb dX12_name_86 (lv_at hl 6 rfl) ?_
    refine lv_iload_n hx hb dX12_name_88 rfl (lv_at hl 3 rfl) ?_
    refine lv_icmp_ge (tgt := 171) hx hb dX12_name_89 (by decide) (fun c7 => ?_) (fun c7 => ?_)
    · have h := it_p c7 h
      refine lv_aload_n hx hb dX12_name_171 rfl (lv_at hl 0 rfl) ?_
      refine lv_dup hx hb dX12_name_172 rfl ?_
      refine x_getI C S KX12 hx0 4 (by decide) rfl rfl fl_RX12_27 dX12_name_173 ?_
      refine lv_iload hx hb dX12_name_176 (lv_at hl 4 rfl) ?_
      refine lv_iadd hx hb dX12_name_178 ?_
      obtain ⟨σ8, hs8, h⟩ := sq_el h
      refine x_putI C S KX12 hx0 4 (by decide) rfl rfl rfl ⟨rfl, rfl⟩ fl_RX12_27 dX12_name_179 hs8 (fun H locs S => ?_)
      exact x_vret C S hr h dX12_name_182
    · have h := it_n c7 h
      refine lv_iconst (v := (1 : Int32)) hx hb dX12_name_92 (by decide) ?_
      refine lv_istore (lv' := [(7, .int (1 : Int32)), (0, .ref (gb g + x0)), (1, .int x1), (2, .int x2), (3, .int x3), (4, .int x4), (5, .int x5), (6, .int x6)]) hx hb dX12_name_93 hl (by decide) rfl (fun ls hl => ?_)
      refine lv_iconst (v := (0 : Int32)) hx hb dX12_name_95 (by decide) ?_
      refine lv_istore (lv' := [(8, .int (0 : Int32)), (7, .int (1 : Int32)), (0, .ref (gb g + x0)), (1, .int x1), (2, .int x2), (3, .int x3), (4, .int x4), (5, .int x5), (6, .int x6)]) hx hb dX12_name_96 hl (by decide) rfl (fun ls hl => ?_)
      exact w_X12_name_98 C hr hSh ih N σ x0 x1 x2 x3 x4 x5 x6 (1 : Int32) (0 : Int32) h hx0 H locs ls S (lv_sub hl [2, 3, 4, 5, 6, 7, 8, 1, 0] rfl)
set_option maxHeartbeats 4000000 in
set_option maxRecDepth 100000 in
theorem w_X12_name_37 {l : Launch} {g : GL} {p : Program} {e : Jvm.Env} {s : State} {m : MethodId} {args : Array Value} {below : List Frame} {meth : Method} {c : Code} {R : Nat → Nat → Nat} {L : Nat → Nat → Int64} {r : (Unit × SI)} {N : Nat} (C : Cx l g p s m meth c cX12_name 9 RX12) (hr : meth.sig.returnType = none) (hSh : ShR R) : ∀ (n : Nat) (σ : SI) (x0 : Nat) (x1 : Int32) (x2 : Int32) (x3 : Int32) (x4 : Int32) (x5 : Int32) (x6 : Int32), f_X12_name_37 N R n σ x0 x1 x2 x3 x4 x5 x6 = some r → Ok 194 x0 12 → ∀ (H : Heap) (locs : List Loc) (ls : Array Slot), S2 g s σ R L H locs → lv_has ls 9 [(0, .ref (gb g + x0)), (1, .int x1), (2, .int x2), (3, .int x3), (4, .int x4), (5, .int x5), (6, .int x6)] → W p l e (rmd 4 0 0) s m args below meth c H locs 0 0 (MQ below (Qg g 194 (PV R L r)) args s 0 0 (gA g)) (F0 m 37 ls []) := by
  have hx := C.1
  have hb := C.2.1
  intro n
  induction n with
  | zero =>
    intro σ x0 x1 x2 x3 x4 x5 x6 h
    cases (show (none : Option (Unit × SI)) = some r from h)
  | succ n ih =>
    intro σ x0 x1 x2 x3 x4 x5 x6 h hx0 H locs ls S hl
    rw [f_X12_name_37] at h
    refine lv_iload hx hb dX12_name_37 (lv_at hl 6 rfl) ?_
    refine lv_bipush (v := (6 : Int32)) hx hb dX12_name_39 (by decide) ?_
    refine lv_icmp_ge (tgt := 83) hx hb dX12_name_41 (by decide) (fun c6 => ?_) (fun c6 => ?_)
    · have h := it_p c6 h
      refine lv_iconst (v := (0 : Int32)) hx hb dX12_name_83 (by decide) ?_
      refine lv_istore (lv' := [(6, .int (0 : Int32)), (0, .ref (gb g + x0)), (1, .int x1), (2, .int x2), (3, .int x3), (4, .int x4), (5, .int x5)]) hx hb dX12_name_84 hl (by decide) rfl (fun ls hl => ?_)
      exact w_X12_name_86 C hr hSh N σ x0 x1 x2 x3 x4 x5 (0 : Int32) h hx0 H locs ls S (lv_sub hl [1, 2, 3, 4, 5, 6, 0] rfl)
    · have h := it_n c6 h
      refine lv_aload_n hx hb dX12_name_44 rfl (lv_at hl 0 rfl) ?_
      have hR19 : Ok 194 (R x0 11) 10417 := hSh x0 12 11 10417 hx0.1 rfl
      refine x_getR C S KX12 hx0 11 (by decide) rfl rfl fl_RX12_88 hR19 dX12_name_45 ?_
      refine lv_iload hx hb dX12_name_48 (lv_at hl 5 rfl) ?_
      refine lv_iload hx hb dX12_name_50 (lv_at hl 6 rfl) ?_
      refine lv_iadd hx hb dX12_name_52 ?_
      refine lv_iload hx hb dX12_name_53 (lv_at hl 6 rfl) ?_
      refine lv_iload hx hb dX12_name_55 (lv_at hl 4 rfl) ?_
      refine lv_icmp_ge (tgt := 75) hx hb dX12_name_57 (by decide) (fun c20 => ?_) (fun c20 => ?_)
      · have h := it_p c20 h
        refine lv_iconst (v := (0 : Int32)) hx hb dX12_name_75 (by decide) ?_
        obtain ⟨hi21, h⟩ := ck_el h
        obtain ⟨σ22, hs22, h⟩ := sq_el h
        refine x_iast (len := 417) C S (by decide) hR19 hi21 dX12_name_76 hs22 (fun H locs S => ?_)
        refine lv_iinc (v := x6 + 1) (lv' := [(6, .int (x6 + 1)), (0, .ref (gb g + x0)), (1, .int x1), (2, .int x2), (3, .int x3), (4, .int x4), (5, .int x5)]) hx hb dX12_name_77 hl (k := 6) rfl rfl (by decide) rfl (fun ls hl => ?_)
        refine lv_goto (tgt := 37) hx hb dX12_name_80 (by decide) ?_
        exact ih σ22 x0 x1 x2 x3 x4 x5 (x6 + 1) h hx0 H locs ls S (lv_sub hl [1, 2, 3, 4, 5, 6, 0] rfl)
      · have h := it_n c20 h
        refine lv_aload_n hx hb dX12_name_60 rfl (lv_at hl 0 rfl) ?_
        have hR23 : Ok 194 (R x0 1) 20800 := hSh x0 12 1 20800 hx0.1 rfl
        refine x_getR C S KX12 hx0 1 (by decide) rfl rfl fl_RX12_14 hR23 dX12_name_61 ?_
        refine lv_aload_n hx hb dX12_name_64 rfl (lv_at hl 0 rfl) ?_
        refine x_getI C S KX12 hx0 4 (by decide) rfl rfl fl_RX12_27 dX12_name_65 ?_
        refine lv_iload hx hb dX12_name_68 (lv_at hl 6 rfl) ?_
        refine lv_iadd hx hb dX12_name_70 ?_
        obtain ⟨hi24, h⟩ := ck_el h
        refine x_bald (len := 800) C S (by decide) hR23 hi24 dX12_name_71 ?_
        refine lv_goto (tgt := 76) hx hb dX12_name_72 (by decide) ?_
        obtain ⟨hi25, h⟩ := ck_el h
        obtain ⟨σ26, hs26, h⟩ := sq_el h
        refine x_iast (len := 417) C S (by decide) hR19 hi25 dX12_name_76 hs26 (fun H locs S => ?_)
        refine lv_iinc (v := x6 + 1) (lv' := [(6, .int (x6 + 1)), (0, .ref (gb g + x0)), (1, .int x1), (2, .int x2), (3, .int x3), (4, .int x4), (5, .int x5)]) hx hb dX12_name_77 hl (k := 6) rfl rfl (by decide) rfl (fun ls hl => ?_)
        refine lv_goto (tgt := 37) hx hb dX12_name_80 (by decide) ?_
        exact ih σ26 x0 x1 x2 x3 x4 x5 (x6 + 1) h hx0 H locs ls S (lv_sub hl [1, 2, 3, 4, 5, 6, 0] rfl)
set_option maxHeartbeats 4000000 in
set_option maxRecDepth 100000 in
theorem ok_X12_name {l : Launch} {g : GL} {R : Nat → Nat → Nat} {L : Nat → Nat → Int64} {N : Nat} {σ : SI} {x0 : Nat} {x1 : Int32} {x2 : Int32} {x3 : Int32} {r : (Unit × SI)} (h : f_X12_name N R σ x0 x1 x2 x3 = some r) (hSh : ShR R) (hx0 : Ok 194 x0 12) : Ct l g 4 yX12_name cX12_name 9 none 194 194 0 0 [.ref (gb g + x0), .int x1, .int x2, .int x3] (mkS σ R L) (PV R L r) := by
  refine Met.ofW (cc := cX12_name) (maxL := 9) (ret := none) (by decide) rfl ?_
  intro p e s m args below meth c s₁ B hml hv
  obtain ⟨rfl, hE, hLo, hWd⟩ := hv
  have hr : meth.sig.returnType = none := B.returns
  have C : Cx l g p s m meth c cX12_name 9 RX12 := ⟨B.exec, B.bytes, hml, findClass_of_methodNamed B.named, hE, hLo, B.notSynchronized⟩
  have S : S2 g s σ R L s.heap [] := ⟨hWd, va_S.rf⟩
  have hx := C.1
  have hb := C.2.1
  have hl := lv_entry ([.ref (gb g + x0), .int x1, .int x2, .int x3]) (n := 9) (Nat.le_of_ble_eq_true rfl)
  rw [lg_entry_eq]
  generalize (lg_sl ([.ref (gb g + x0), .int x1, .int x2, .int x3]) ++ List.replicate (9 - (lg_sl ([.ref (gb g + x0), .int x1, .int x2, .int x3])).length) Slot.unset).toArray = ls at hl ⊢
  have hl : lv_has ls 9 [(0, .ref (gb g + x0)), (1, .int x1), (2, .int x2), (3, .int x3)] := hl
  generalize hH : s.heap = H at S ⊢
  generalize hlc : ([] : List Loc) = locs at S ⊢
  rw [f_X12_name] at h
  refine lv_aload_n hx hb dX12_name_0 rfl (lv_at hl 0 rfl) ?_
  obtain ⟨a1, σ1, hc1, h⟩ := bd_el h
  refine x_callVI C S KX12 hx0 (ok_X12_letters (L := L) hc1 hSh hx0) ⟨cd_X12_letters, ni_RX12, ml_RX12_51, in_X12_letters, sl_X12_letters⟩ ⟨by decide, by decide⟩ rfl ⟨by decide, by decide⟩ hl.1 rfl (Nat.le_of_ble_eq_true rfl) ⟨by decide, by decide⟩ dX12_name_1 (fun H locs S => ?_)
  refine lv_istore (lv' := [(4, .int a1), (0, .ref (gb g + x0)), (1, .int x1), (2, .int x2), (3, .int x3)]) hx hb dX12_name_4 hl (by decide) rfl (fun ls hl => ?_)
  refine lv_aload_n hx hb dX12_name_6 rfl (lv_at hl 1 rfl) ?_
  refine lv_iload hx hb dX12_name_7 (lv_at hl 0 rfl) ?_
  refine lv_iconst (v := (1 : Int32)) hx hb dX12_name_9 (by decide) ?_
  refine lv_bipush (v := (6 : Int32)) hx hb dX12_name_10 (by decide) ?_
  obtain ⟨a2, σ2, hc2, h⟩ := bd_el h
  refine x_callSI C S (ok_X12_in (L := L) hc2 hSh) ⟨cd_X12_in, ni_RX12, ml_RX12_71, st_X12_in⟩ ⟨by decide, by decide⟩ rfl ⟨by decide, by decide⟩ hl.1 rfl (Nat.le_of_ble_eq_true rfl) ⟨by decide, by decide⟩ dX12_name_12 (fun H locs S => ?_)
  refine lv_iconst (v := (1 : Int32)) hx hb dX12_name_15 (by decide) ?_
  obtain ⟨a3, σ3, hc3, h⟩ := bd_el h
  refine x_callVV C S KX12 hx0 (ok_X12_must (L := L) hc3 hSh hx0) ⟨cd_X12_must, ni_RX12, ml_RX12_67, in_X12_must, sl_X12_must⟩ ⟨by decide, by decide⟩ rfl ⟨by decide, by decide⟩ hl.1 rfl (Nat.le_of_ble_eq_true rfl) ⟨by decide, by decide⟩ dX12_name_16 (fun H locs S => ?_)
  refine lv_aload_n hx hb dX12_name_19 rfl (lv_at hl 1 rfl) ?_
  obtain ⟨a4, σ4, hc4, h⟩ := bd_el h
  refine x_callVI C S KX12 hx0 (ok_X12_hasFailed (L := L) hc4 hSh hx0) ⟨cd_X12_hasFailed, ni_RX12, ml_RX12_40, in_X12_hasFailed, sl_X12_hasFailed⟩ ⟨by decide, by decide⟩ rfl ⟨by decide, by decide⟩ hl.1 rfl (Nat.le_of_ble_eq_true rfl) ⟨by decide, by decide⟩ dX12_name_20 (fun H locs S => ?_)
  refine lv_if_eq (tgt := 27) hx hb dX12_name_23 (by decide) (fun c5 => ?_) (fun c5 => ?_)
  · have h := it_p c5 h
    refine lv_iload_n hx hb dX12_name_27 rfl (lv_at hl 2 rfl) ?_
    refine lv_iload_n hx hb dX12_name_28 rfl (lv_at hl 3 rfl) ?_
    refine lv_iload_n hx hb dX12_name_29 rfl (lv_at hl 4 rfl) ?_
    refine lv_imul hx hb dX12_name_30 ?_
    refine lv_iadd hx hb dX12_name_31 ?_
    refine lv_istore (lv' := [(5, .int (x1 + (x2 * x3))), (4, .int a1), (0, .ref (gb g + x0)), (1, .int x1), (2, .int x2), (3, .int x3)]) hx hb dX12_name_32 hl (by decide) rfl (fun ls hl => ?_)
    refine lv_iconst (v := (0 : Int32)) hx hb dX12_name_34 (by decide) ?_
    refine lv_istore (lv' := [(6, .int (0 : Int32)), (5, .int (x1 + (x2 * x3))), (4, .int a1), (0, .ref (gb g + x0)), (1, .int x1), (2, .int x2), (3, .int x3)]) hx hb dX12_name_35 hl (by decide) rfl (fun ls hl => ?_)
    exact w_X12_name_37 C hr hSh N σ4 x0 x1 x2 x3 a1 (x1 + (x2 * x3)) (0 : Int32) h hx0 H locs ls S (lv_sub hl [3, 4, 5, 6, 2, 1, 0] rfl)
  · have h := it_n c5 h
    exact x_vret C S hr h dX12_name_26
theorem dX12_dayLine_0 : decode cX12_dayLine 0 = .ok (.aload_n 0, 1) := by decide +kernel
theorem dX12_dayLine_1 : decode cX12_dayLine 1 = .ok (.getfield 88, 3) := by decide +kernel
theorem dX12_dayLine_4 : decode cX12_dayLine 4 = .ok (.iconst 3, 1) := by decide +kernel
theorem dX12_dayLine_5 : decode cX12_dayLine 5 = .ok (.aload_n 0, 1) := by decide +kernel
theorem dX12_dayLine_6 : decode cX12_dayLine 6 = .ok (.iconst 0, 1) := by decide +kernel
theorem dX12_dayLine_7 : decode cX12_dayLine 7 = .ok (.sipush 1439, 3) := by decide +kernel
theorem dX12_dayLine_10 : decode cX12_dayLine 10 = .ok (.invokevirtual 79, 3) := by decide +kernel
theorem dX12_dayLine_13 : decode cX12_dayLine 13 = .ok (.iastore, 1) := by decide +kernel
theorem dX12_dayLine_14 : decode cX12_dayLine 14 = .ok (.aload_n 0, 1) := by decide +kernel
theorem dX12_dayLine_15 : decode cX12_dayLine 15 = .ok (.getfield 88, 3) := by decide +kernel
theorem dX12_dayLine_18 : decode cX12_dayLine 18 = .ok (.iconst 4, 1) := by decide +kernel
theorem dX12_dayLine_19 : decode cX12_dayLine 19 = .ok (.aload_n 0, 1) := by decide +kernel
theorem dX12_dayLine_20 : decode cX12_dayLine 20 = .ok (.aload_n 0, 1) := by decide +kernel
theorem dX12_dayLine_21 : decode cX12_dayLine 21 = .ok (.getfield 88, 3) := by decide +kernel
theorem dX12_dayLine_24 : decode cX12_dayLine 24 = .ok (.iconst 3, 1) := by decide +kernel
theorem dX12_dayLine_25 : decode cX12_dayLine 25 = .ok (.iaload, 1) := by decide +kernel
theorem dX12_dayLine_26 : decode cX12_dayLine 26 = .ok (.sipush 1439, 3) := by decide +kernel
theorem dX12_dayLine_29 : decode cX12_dayLine 29 = .ok (.invokevirtual 79, 3) := by decide +kernel
theorem dX12_dayLine_32 : decode cX12_dayLine 32 = .ok (.iastore, 1) := by decide +kernel
theorem dX12_dayLine_33 : decode cX12_dayLine 33 = .ok (.return_, 1) := by decide +kernel
def f_X12_dayLine (N : Nat) (R : Nat → Nat → Nat) (σ : SI) (x0 : Nat) : Option (Unit × SI) := bd (f_X12_number N R σ x0 (0 : Int32) (1439 : Int32)) (fun a2 σ2 => ck (3 : Int32) 417 (sq (up σ2 (R x0 11) (3 : Int32).toNatClampNeg a2) (fun σ4 => ck (3 : Int32) 417 (bd (f_X12_number N R σ4 x0 (σ4 (R x0 11) (3 : Int32).toNatClampNeg) (1439 : Int32)) (fun a8 σ8 => ck (4 : Int32) 417 (sq (up σ8 (R x0 11) (4 : Int32).toNatClampNeg a8) (fun σ10 => some ((), σ10))))))))
set_option maxHeartbeats 4000000 in
set_option maxRecDepth 100000 in
theorem ok_X12_dayLine {l : Launch} {g : GL} {R : Nat → Nat → Nat} {L : Nat → Nat → Int64} {N : Nat} {σ : SI} {x0 : Nat} {r : (Unit × SI)} (h : f_X12_dayLine N R σ x0 = some r) (hSh : ShR R) (hx0 : Ok 194 x0 12) : Ct l g 5 yX12_dayLine cX12_dayLine 1 none 194 194 0 0 [.ref (gb g + x0)] (mkS σ R L) (PV R L r) := by
  refine Met.ofW (cc := cX12_dayLine) (maxL := 1) (ret := none) (by decide) rfl ?_
  intro p e s m args below meth c s₁ B hml hv
  obtain ⟨rfl, hE, hLo, hWd⟩ := hv
  have hr : meth.sig.returnType = none := B.returns
  have C : Cx l g p s m meth c cX12_dayLine 1 RX12 := ⟨B.exec, B.bytes, hml, findClass_of_methodNamed B.named, hE, hLo, B.notSynchronized⟩
  have S : S2 g s σ R L s.heap [] := ⟨hWd, va_S.rf⟩
  have hx := C.1
  have hb := C.2.1
  have hl := lv_entry ([.ref (gb g + x0)]) (n := 1) (Nat.le_of_ble_eq_true rfl)
  rw [lg_entry_eq]
  generalize (lg_sl ([.ref (gb g + x0)]) ++ List.replicate (1 - (lg_sl ([.ref (gb g + x0)])).length) Slot.unset).toArray = ls at hl ⊢
  have hl : lv_has ls 1 [(0, .ref (gb g + x0))] := hl
  generalize hH : s.heap = H at S ⊢
  generalize hlc : ([] : List Loc) = locs at S ⊢
  rw [f_X12_dayLine] at h
  refine lv_aload_n hx hb dX12_dayLine_0 rfl (lv_at hl 0 rfl) ?_
  have hR1 : Ok 194 (R x0 11) 10417 := hSh x0 12 11 10417 hx0.1 rfl
  refine x_getR C S KX12 hx0 11 (by decide) rfl rfl fl_RX12_88 hR1 dX12_dayLine_1 ?_
  refine lv_iconst (v := (3 : Int32)) hx hb dX12_dayLine_4 (by decide) ?_
  refine lv_aload_n hx hb dX12_dayLine_5 rfl (lv_at hl 0 rfl) ?_
  refine lv_iconst (v := (0 : Int32)) hx hb dX12_dayLine_6 (by decide) ?_
  refine lv_sipush (v := (1439 : Int32)) hx hb dX12_dayLine_7 (by decide) ?_
  obtain ⟨a2, σ2, hc2, h⟩ := bd_el h
  refine x_callVI C S KX12 hx0 (ok_X12_number (L := L) hc2 hSh hx0) ⟨cd_X12_number, ni_RX12, ml_RX12_79, in_X12_number, sl_X12_number⟩ ⟨by decide, by decide⟩ rfl ⟨by decide, by decide⟩ hl.1 rfl (Nat.le_of_ble_eq_true rfl) ⟨by decide, by decide⟩ dX12_dayLine_10 (fun H locs S => ?_)
  obtain ⟨hi3, h⟩ := ck_el h
  obtain ⟨σ4, hs4, h⟩ := sq_el h
  refine x_iast (len := 417) C S (by decide) hR1 hi3 dX12_dayLine_13 hs4 (fun H locs S => ?_)
  refine lv_aload_n hx hb dX12_dayLine_14 rfl (lv_at hl 0 rfl) ?_
  have hR5 : Ok 194 (R x0 11) 10417 := hSh x0 12 11 10417 hx0.1 rfl
  refine x_getR C S KX12 hx0 11 (by decide) rfl rfl fl_RX12_88 hR5 dX12_dayLine_15 ?_
  refine lv_iconst (v := (4 : Int32)) hx hb dX12_dayLine_18 (by decide) ?_
  refine lv_aload_n hx hb dX12_dayLine_19 rfl (lv_at hl 0 rfl) ?_
  refine lv_aload_n hx hb dX12_dayLine_20 rfl (lv_at hl 0 rfl) ?_
  have hR6 : Ok 194 (R x0 11) 10417 := hSh x0 12 11 10417 hx0.1 rfl
  refine x_getR C S KX12 hx0 11 (by decide) rfl rfl fl_RX12_88 hR6 dX12_dayLine_21 ?_
  refine lv_iconst (v := (3 : Int32)) hx hb dX12_dayLine_24 (by decide) ?_
  obtain ⟨hi7, h⟩ := ck_el h
  refine x_iald (len := 417) C S (by decide) hR6 hi7 dX12_dayLine_25 ?_
  refine lv_sipush (v := (1439 : Int32)) hx hb dX12_dayLine_26 (by decide) ?_
  obtain ⟨a8, σ8, hc8, h⟩ := bd_el h
  refine x_callVI C S KX12 hx0 (ok_X12_number (L := L) hc8 hSh hx0) ⟨cd_X12_number, ni_RX12, ml_RX12_79, in_X12_number, sl_X12_number⟩ ⟨by decide, by decide⟩ rfl ⟨by decide, by decide⟩ hl.1 rfl (Nat.le_of_ble_eq_true rfl) ⟨by decide, by decide⟩ dX12_dayLine_29 (fun H locs S => ?_)
  obtain ⟨hi9, h⟩ := ck_el h
  obtain ⟨σ10, hs10, h⟩ := sq_el h
  refine x_iast (len := 417) C S (by decide) hR5 hi9 dX12_dayLine_32 hs10 (fun H locs S => ?_)
  exact x_vret C S hr h dX12_dayLine_33
theorem dX12_windLine_0 : decode cX12_windLine 0 = .ok (.bipush 9, 2) := by decide +kernel
theorem dX12_windLine_2 : decode cX12_windLine 2 = .ok (.iconst 3, 1) := by decide +kernel
theorem dX12_windLine_3 : decode cX12_windLine 3 = .ok (.aload_n 0, 1) := by decide +kernel
theorem dX12_windLine_4 : decode cX12_windLine 4 = .ok (.iconst 0, 1) := by decide +kernel
theorem dX12_windLine_5 : decode cX12_windLine 5 = .ok (.bipush 23, 2) := by decide +kernel
theorem dX12_windLine_7 : decode cX12_windLine 7 = .ok (.invokevirtual 79, 3) := by decide +kernel
theorem dX12_windLine_10 : decode cX12_windLine 10 = .ok (.imul, 1) := by decide +kernel
theorem dX12_windLine_11 : decode cX12_windLine 11 = .ok (.iadd, 1) := by decide +kernel
theorem dX12_windLine_12 : decode cX12_windLine 12 = .ok (.istore_n 1, 1) := by decide +kernel
theorem dX12_windLine_13 : decode cX12_windLine 13 = .ok (.aload_n 0, 1) := by decide +kernel
theorem dX12_windLine_14 : decode cX12_windLine 14 = .ok (.iconst 0, 1) := by decide +kernel
theorem dX12_windLine_15 : decode cX12_windLine 15 = .ok (.bipush 7, 2) := by decide +kernel
theorem dX12_windLine_17 : decode cX12_windLine 17 = .ok (.invokevirtual 79, 3) := by decide +kernel
theorem dX12_windLine_20 : decode cX12_windLine 20 = .ok (.istore_n 2, 1) := by decide +kernel
theorem dX12_windLine_21 : decode cX12_windLine 21 = .ok (.aload_n 0, 1) := by decide +kernel
theorem dX12_windLine_22 : decode cX12_windLine 22 = .ok (.iconst 0, 1) := by decide +kernel
theorem dX12_windLine_23 : decode cX12_windLine 23 = .ok (.bipush 20, 2) := by decide +kernel
theorem dX12_windLine_25 : decode cX12_windLine 25 = .ok (.invokevirtual 79, 3) := by decide +kernel
theorem dX12_windLine_28 : decode cX12_windLine 28 = .ok (.istore_n 3, 1) := by decide +kernel
theorem dX12_windLine_29 : decode cX12_windLine 29 = .ok (.aload_n 0, 1) := by decide +kernel
theorem dX12_windLine_30 : decode cX12_windLine 30 = .ok (.invokevirtual 40, 3) := by decide +kernel
theorem dX12_windLine_33 : decode cX12_windLine 33 = .ok (.ifCond .eq 4, 3) := by decide +kernel
theorem dX12_windLine_36 : decode cX12_windLine 36 = .ok (.return_, 1) := by decide +kernel
theorem dX12_windLine_37 : decode cX12_windLine 37 = .ok (.aload_n 0, 1) := by decide +kernel
theorem dX12_windLine_38 : decode cX12_windLine 38 = .ok (.getfield 88, 3) := by decide +kernel
theorem dX12_windLine_41 : decode cX12_windLine 41 = .ok (.iload_n 1, 1) := by decide +kernel
theorem dX12_windLine_42 : decode cX12_windLine 42 = .ok (.iconst 1, 1) := by decide +kernel
theorem dX12_windLine_43 : decode cX12_windLine 43 = .ok (.iastore, 1) := by decide +kernel
theorem dX12_windLine_44 : decode cX12_windLine 44 = .ok (.aload_n 0, 1) := by decide +kernel
theorem dX12_windLine_45 : decode cX12_windLine 45 = .ok (.getfield 88, 3) := by decide +kernel
theorem dX12_windLine_48 : decode cX12_windLine 48 = .ok (.iload_n 1, 1) := by decide +kernel
theorem dX12_windLine_49 : decode cX12_windLine 49 = .ok (.iconst 1, 1) := by decide +kernel
theorem dX12_windLine_50 : decode cX12_windLine 50 = .ok (.iadd, 1) := by decide +kernel
theorem dX12_windLine_51 : decode cX12_windLine 51 = .ok (.iload_n 2, 1) := by decide +kernel
theorem dX12_windLine_52 : decode cX12_windLine 52 = .ok (.iastore, 1) := by decide +kernel
theorem dX12_windLine_53 : decode cX12_windLine 53 = .ok (.aload_n 0, 1) := by decide +kernel
theorem dX12_windLine_54 : decode cX12_windLine 54 = .ok (.getfield 88, 3) := by decide +kernel
theorem dX12_windLine_57 : decode cX12_windLine 57 = .ok (.iload_n 1, 1) := by decide +kernel
theorem dX12_windLine_58 : decode cX12_windLine 58 = .ok (.iconst 2, 1) := by decide +kernel
theorem dX12_windLine_59 : decode cX12_windLine 59 = .ok (.iadd, 1) := by decide +kernel
theorem dX12_windLine_60 : decode cX12_windLine 60 = .ok (.iload_n 3, 1) := by decide +kernel
theorem dX12_windLine_61 : decode cX12_windLine 61 = .ok (.iastore, 1) := by decide +kernel
theorem dX12_windLine_62 : decode cX12_windLine 62 = .ok (.return_, 1) := by decide +kernel
def f_X12_windLine (N : Nat) (R : Nat → Nat → Nat) (σ : SI) (x0 : Nat) : Option (Unit × SI) := bd (f_X12_number N R σ x0 (0 : Int32) (23 : Int32)) (fun a1 σ1 => bd (f_X12_number N R σ1 x0 (0 : Int32) (7 : Int32)) (fun a2 σ2 => bd (f_X12_number N R σ2 x0 (0 : Int32) (20 : Int32)) (fun a3 σ3 => bd (f_X12_hasFailed N R σ3 x0) (fun a4 σ4 => if a4 = 0 then (ck ((9 : Int32) + ((3 : Int32) * a1)) 417 (sq (up σ4 (R x0 11) ((9 : Int32) + ((3 : Int32) * a1)).toNatClampNeg (1 : Int32)) (fun σ8 => ck (((9 : Int32) + ((3 : Int32) * a1)) + (1 : Int32)) 417 (sq (up σ8 (R x0 11) (((9 : Int32) + ((3 : Int32) * a1)) + (1 : Int32)).toNatClampNeg a2) (fun σ11 => ck (((9 : Int32) + ((3 : Int32) * a1)) + (2 : Int32)) 417 (sq (up σ11 (R x0 11) (((9 : Int32) + ((3 : Int32) * a1)) + (2 : Int32)).toNatClampNeg a3) (fun σ14 => some ((), σ14)))))))) else (some ((), σ4))))))
set_option maxHeartbeats 4000000 in
set_option maxRecDepth 100000 in
theorem ok_X12_windLine {l : Launch} {g : GL} {R : Nat → Nat → Nat} {L : Nat → Nat → Int64} {N : Nat} {σ : SI} {x0 : Nat} {r : (Unit × SI)} (h : f_X12_windLine N R σ x0 = some r) (hSh : ShR R) (hx0 : Ok 194 x0 12) : Ct l g 5 yX12_windLine cX12_windLine 4 none 194 194 0 0 [.ref (gb g + x0)] (mkS σ R L) (PV R L r) := by
  refine Met.ofW (cc := cX12_windLine) (maxL := 4) (ret := none) (by decide) rfl ?_
  intro p e s m args below meth c s₁ B hml hv
  obtain ⟨rfl, hE, hLo, hWd⟩ := hv
  have hr : meth.sig.returnType = none := B.returns
  have C : Cx l g p s m meth c cX12_windLine 4 RX12 := ⟨B.exec, B.bytes, hml, findClass_of_methodNamed B.named, hE, hLo, B.notSynchronized⟩
  have S : S2 g s σ R L s.heap [] := ⟨hWd, va_S.rf⟩
  have hx := C.1
  have hb := C.2.1
  have hl := lv_entry ([.ref (gb g + x0)]) (n := 4) (Nat.le_of_ble_eq_true rfl)
  rw [lg_entry_eq]
  generalize (lg_sl ([.ref (gb g + x0)]) ++ List.replicate (4 - (lg_sl ([.ref (gb g + x0)])).length) Slot.unset).toArray = ls at hl ⊢
  have hl : lv_has ls 4 [(0, .ref (gb g + x0))] := hl
  generalize hH : s.heap = H at S ⊢
  generalize hlc : ([] : List Loc) = locs at S ⊢
  rw [f_X12_windLine] at h
  refine lv_bipush (v := (9 : Int32)) hx hb dX12_windLine_0 (by decide) ?_
  refine lv_iconst (v := (3 : Int32)) hx hb dX12_windLine_2 (by decide) ?_
  refine lv_aload_n hx hb dX12_windLine_3 rfl (lv_at hl 0 rfl) ?_
  refine lv_iconst (v := (0 : Int32)) hx hb dX12_windLine_4 (by decide) ?_
  refine lv_bipush (v := (23 : Int32)) hx hb dX12_windLine_5 (by decide) ?_
  obtain ⟨a1, σ1, hc1, h⟩ := bd_el h
  refine x_callVI C S KX12 hx0 (ok_X12_number (L := L) hc1 hSh hx0) ⟨cd_X12_number, ni_RX12, ml_RX12_79, in_X12_number, sl_X12_number⟩ ⟨by decide, by decide⟩ rfl ⟨by decide, by decide⟩ hl.1 rfl (Nat.le_of_ble_eq_true rfl) ⟨by decide, by decide⟩ dX12_windLine_7 (fun H locs S => ?_)
  refine lv_imul hx hb dX12_windLine_10 ?_
  refine lv_iadd hx hb dX12_windLine_11 ?_
  refine lv_istore_n (lv' := [(1, .int ((9 : Int32) + ((3 : Int32) * a1))), (0, .ref (gb g + x0))]) hx hb dX12_windLine_12 rfl hl (by decide) rfl (fun ls hl => ?_)
  refine lv_aload_n hx hb dX12_windLine_13 rfl (lv_at hl 1 rfl) ?_
  refine lv_iconst (v := (0 : Int32)) hx hb dX12_windLine_14 (by decide) ?_
  refine lv_bipush (v := (7 : Int32)) hx hb dX12_windLine_15 (by decide) ?_
  obtain ⟨a2, σ2, hc2, h⟩ := bd_el h
  refine x_callVI C S KX12 hx0 (ok_X12_number (L := L) hc2 hSh hx0) ⟨cd_X12_number, ni_RX12, ml_RX12_79, in_X12_number, sl_X12_number⟩ ⟨by decide, by decide⟩ rfl ⟨by decide, by decide⟩ hl.1 rfl (Nat.le_of_ble_eq_true rfl) ⟨by decide, by decide⟩ dX12_windLine_17 (fun H locs S => ?_)
  refine lv_istore_n (lv' := [(2, .int a2), (1, .int ((9 : Int32) + ((3 : Int32) * a1))), (0, .ref (gb g + x0))]) hx hb dX12_windLine_20 rfl hl (by decide) rfl (fun ls hl => ?_)
  refine lv_aload_n hx hb dX12_windLine_21 rfl (lv_at hl 2 rfl) ?_
  refine lv_iconst (v := (0 : Int32)) hx hb dX12_windLine_22 (by decide) ?_
  refine lv_bipush (v := (20 : Int32)) hx hb dX12_windLine_23 (by decide) ?_
  obtain ⟨a3, σ3, hc3, h⟩ := bd_el h
  refine x_callVI C S KX12 hx0 (ok_X12_number (L := L) hc3 hSh hx0) ⟨cd_X12_number, ni_RX12, ml_RX12_79, in_X12_number, sl_X12_number⟩ ⟨by decide, by decide⟩ rfl ⟨by decide, by decide⟩ hl.1 rfl (Nat.le_of_ble_eq_true rfl) ⟨by decide, by decide⟩ dX12_windLine_25 (fun H locs S => ?_)
  refine lv_istore_n (lv' := [(3, .int a3), (2, .int a2), (1, .int ((9 : Int32) + ((3 : Int32) * a1))), (0, .ref (gb g + x0))]) hx hb dX12_windLine_28 rfl hl (by decide) rfl (fun ls hl => ?_)
  refine lv_aload_n hx hb dX12_windLine_29 rfl (lv_at hl 3 rfl) ?_
  obtain ⟨a4, σ4, hc4, h⟩ := bd_el h
  refine x_callVI C S KX12 hx0 (ok_X12_hasFailed (L := L) hc4 hSh hx0) ⟨cd_X12_hasFailed, ni_RX12, ml_RX12_40, in_X12_hasFailed, sl_X12_hasFailed⟩ ⟨by decide, by decide⟩ rfl ⟨by decide, by decide⟩ hl.1 rfl (Nat.le_of_ble_eq_true rfl) ⟨by decide, by decide⟩ dX12_windLine_30 (fun H locs S => ?_)
  refine lv_if_eq (tgt := 37) hx hb dX12_windLine_33 (by decide) (fun c5 => ?_) (fun c5 => ?_)
  · have h := it_p c5 h
    refine lv_aload_n hx hb dX12_windLine_37 rfl (lv_at hl 3 rfl) ?_
    have hR6 : Ok 194 (R x0 11) 10417 := hSh x0 12 11 10417 hx0.1 rfl
    refine x_getR C S KX12 hx0 11 (by decide) rfl rfl fl_RX12_88 hR6 dX12_windLine_38 ?_
    refine lv_iload_n hx hb dX12_windLine_41 rfl (lv_at hl 2 rfl) ?_
    refine lv_iconst (v := (1 : Int32)) hx hb dX12_windLine_42 (by decide) ?_
    obtain ⟨hi7, h⟩ := ck_el h
    obtain ⟨σ8, hs8, h⟩ := sq_el h
    refine x_iast (len := 417) C S (by decide) hR6 hi7 dX12_windLine_43 hs8 (fun H locs S => ?_)
    refine lv_aload_n hx hb dX12_windLine_44 rfl (lv_at hl 3 rfl) ?_
    have hR9 : Ok 194 (R x0 11) 10417 := hSh x0 12 11 10417 hx0.1 rfl
    refine x_getR C S KX12 hx0 11 (by decide) rfl rfl fl_RX12_88 hR9 dX12_windLine_45 ?_
    refine lv_iload_n hx hb dX12_windLine_48 rfl (lv_at hl 2 rfl) ?_
    refine lv_iconst (v := (1 : Int32)) hx hb dX12_windLine_49 (by decide) ?_
    refine lv_iadd hx hb dX12_windLine_50 ?_
    refine lv_iload_n hx hb dX12_windLine_51 rfl (lv_at hl 1 rfl) ?_
    obtain ⟨hi10, h⟩ := ck_el h
    obtain ⟨σ11, hs11, h⟩ := sq_el h
    refine x_iast (len := 417) C S (by decide) hR9 hi10 dX12_windLine_52 hs11 (fun H locs S => ?_)
    refine lv_aload_n hx hb dX12_windLine_53 rfl (lv_at hl 3 rfl) ?_
    have hR12 : Ok 194 (R x0 11) 10417 := hSh x0 12 11 10417 hx0.1 rfl
    refine x_getR C S KX12 hx0 11 (by decide) rfl rfl fl_RX12_88 hR12 dX12_windLine_54 ?_
    refine lv_iload_n hx hb dX12_windLine_57 rfl (lv_at hl 2 rfl) ?_
    refine lv_iconst (v := (2 : Int32)) hx hb dX12_windLine_58 (by decide) ?_
    refine lv_iadd hx hb dX12_windLine_59 ?_
    refine lv_iload_n hx hb dX12_windLine_60 rfl (lv_at hl 0 rfl) ?_
    obtain ⟨hi13, h⟩ := ck_el h
    obtain ⟨σ14, hs14, h⟩ := sq_el h
    refine x_iast (len := 417) C S (by decide) hR12 hi13 dX12_windLine_61 hs14 (fun H locs S => ?_)
    exact x_vret C S hr h dX12_windLine_62
  · have h := it_n c5 h
    exact x_vret C S hr h dX12_windLine_36
theorem dX12_roadLine_0 : decode cX12_roadLine 0 = .ok (.aload_n 0, 1) := by decide +kernel
theorem dX12_roadLine_1 : decode cX12_roadLine 1 = .ok (.getfield 88, 3) := by decide +kernel
theorem dX12_roadLine_4 : decode cX12_roadLine 4 = .ok (.iconst 1, 1) := by decide +kernel
theorem dX12_roadLine_5 : decode cX12_roadLine 5 = .ok (.iaload, 1) := by decide +kernel
theorem dX12_roadLine_6 : decode cX12_roadLine 6 = .ok (.istore_n 1, 1) := by decide +kernel
theorem dX12_roadLine_7 : decode cX12_roadLine 7 = .ok (.aload_n 0, 1) := by decide +kernel
theorem dX12_roadLine_8 : decode cX12_roadLine 8 = .ok (.sipush 225, 3) := by decide +kernel
theorem dX12_roadLine_11 : decode cX12_roadLine 11 = .ok (.bipush 10, 2) := by decide +kernel
theorem dX12_roadLine_13 : decode cX12_roadLine 13 = .ok (.iload_n 1, 1) := by decide +kernel
theorem dX12_roadLine_14 : decode cX12_roadLine 14 = .ok (.invokevirtual 131, 3) := by decide +kernel
theorem dX12_roadLine_17 : decode cX12_roadLine 17 = .ok (.bipush 6, 2) := by decide +kernel
theorem dX12_roadLine_19 : decode cX12_roadLine 19 = .ok (.istore_n 2, 1) := by decide +kernel
theorem dX12_roadLine_20 : decode cX12_roadLine 20 = .ok (.iload_n 2, 1) := by decide +kernel
theorem dX12_roadLine_21 : decode cX12_roadLine 21 = .ok (.bipush 9, 2) := by decide +kernel
theorem dX12_roadLine_23 : decode cX12_roadLine 23 = .ok (.if_icmp .gt 32, 3) := by decide +kernel
theorem dX12_roadLine_26 : decode cX12_roadLine 26 = .ok (.aload_n 0, 1) := by decide +kernel
theorem dX12_roadLine_27 : decode cX12_roadLine 27 = .ok (.getfield 88, 3) := by decide +kernel
theorem dX12_roadLine_30 : decode cX12_roadLine 30 = .ok (.sipush 225, 3) := by decide +kernel
theorem dX12_roadLine_33 : decode cX12_roadLine 33 = .ok (.bipush 10, 2) := by decide +kernel
theorem dX12_roadLine_35 : decode cX12_roadLine 35 = .ok (.iload_n 1, 1) := by decide +kernel
theorem dX12_roadLine_36 : decode cX12_roadLine 36 = .ok (.imul, 1) := by decide +kernel
theorem dX12_roadLine_37 : decode cX12_roadLine 37 = .ok (.iadd, 1) := by decide +kernel
theorem dX12_roadLine_38 : decode cX12_roadLine 38 = .ok (.iload_n 2, 1) := by decide +kernel
theorem dX12_roadLine_39 : decode cX12_roadLine 39 = .ok (.iadd, 1) := by decide +kernel
theorem dX12_roadLine_40 : decode cX12_roadLine 40 = .ok (.aload_n 0, 1) := by decide +kernel
theorem dX12_roadLine_41 : decode cX12_roadLine 41 = .ok (.iconst 0, 1) := by decide +kernel
theorem dX12_roadLine_42 : decode cX12_roadLine 42 = .ok (.sipush 999, 3) := by decide +kernel
theorem dX12_roadLine_45 : decode cX12_roadLine 45 = .ok (.invokevirtual 79, 3) := by decide +kernel
theorem dX12_roadLine_48 : decode cX12_roadLine 48 = .ok (.iastore, 1) := by decide +kernel
theorem dX12_roadLine_49 : decode cX12_roadLine 49 = .ok (.iinc 2 1, 3) := by decide +kernel
theorem dX12_roadLine_52 : decode cX12_roadLine 52 = .ok (.goto (-32), 3) := by decide +kernel
theorem dX12_roadLine_55 : decode cX12_roadLine 55 = .ok (.aload_n 0, 1) := by decide +kernel
theorem dX12_roadLine_56 : decode cX12_roadLine 56 = .ok (.getfield 88, 3) := by decide +kernel
theorem dX12_roadLine_59 : decode cX12_roadLine 59 = .ok (.iconst 1, 1) := by decide +kernel
theorem dX12_roadLine_60 : decode cX12_roadLine 60 = .ok (.dup2, 1) := by decide +kernel
theorem dX12_roadLine_61 : decode cX12_roadLine 61 = .ok (.iaload, 1) := by decide +kernel
theorem dX12_roadLine_62 : decode cX12_roadLine 62 = .ok (.iconst 1, 1) := by decide +kernel
theorem dX12_roadLine_63 : decode cX12_roadLine 63 = .ok (.iadd, 1) := by decide +kernel
theorem dX12_roadLine_64 : decode cX12_roadLine 64 = .ok (.iastore, 1) := by decide +kernel
theorem dX12_roadLine_65 : decode cX12_roadLine 65 = .ok (.return_, 1) := by decide +kernel
def f_X12_roadLine_20 (N : Nat) (R : Nat → Nat → Nat) : Nat → SI → Nat → Int32 → Int32 → Option (Unit × SI)
  | 0, _, _, _, _ => none
  | n + 1, σ, x0, x1, x2 => if (9 : Int32) < x2 then (ck (1 : Int32) 417 (ck (1 : Int32) 417 (sq (up σ (R x0 11) (1 : Int32).toNatClampNeg ((σ (R x0 11) (1 : Int32).toNatClampNeg) + (1 : Int32))) (fun σ8 => some ((), σ8))))) else (bd (f_X12_number N R σ x0 (0 : Int32) (999 : Int32)) (fun a10 σ10 => ck (((225 : Int32) + ((10 : Int32) * x1)) + x2) 417 (sq (up σ10 (R x0 11) (((225 : Int32) + ((10 : Int32) * x1)) + x2).toNatClampNeg a10) (fun σ12 => f_X12_roadLine_20 N R n σ12 x0 x1 (x2 + 1)))))
def f_X12_roadLine (N : Nat) (R : Nat → Nat → Nat) (σ : SI) (x0 : Nat) : Option (Unit × SI) := ck (1 : Int32) 417 (bd (f_X12_name N R σ x0 (225 : Int32) (10 : Int32) (σ (R x0 11) (1 : Int32).toNatClampNeg)) (fun _ σ3 => f_X12_roadLine_20 N R N σ3 x0 (σ (R x0 11) (1 : Int32).toNatClampNeg) (6 : Int32)))
set_option maxHeartbeats 4000000 in
set_option maxRecDepth 100000 in
theorem w_X12_roadLine_20 {l : Launch} {g : GL} {p : Program} {e : Jvm.Env} {s : State} {m : MethodId} {args : Array Value} {below : List Frame} {meth : Method} {c : Code} {R : Nat → Nat → Nat} {L : Nat → Nat → Int64} {r : (Unit × SI)} {N : Nat} (C : Cx l g p s m meth c cX12_roadLine 3 RX12) (hr : meth.sig.returnType = none) (hSh : ShR R) : ∀ (n : Nat) (σ : SI) (x0 : Nat) (x1 : Int32) (x2 : Int32), f_X12_roadLine_20 N R n σ x0 x1 x2 = some r → Ok 194 x0 12 → ∀ (H : Heap) (locs : List Loc) (ls : Array Slot), S2 g s σ R L H locs → lv_has ls 3 [(0, .ref (gb g + x0)), (1, .int x1), (2, .int x2)] → W p l e (rmd 5 0 0) s m args below meth c H locs 0 0 (MQ below (Qg g 194 (PV R L r)) args s 0 0 (gA g)) (F0 m 20 ls []) := by
  have hx := C.1
  have hb := C.2.1
  intro n
  induction n with
  | zero =>
    intro σ x0 x1 x2 h
    cases (show (none : Option (Unit × SI)) = some r from h)
  | succ n ih =>
    intro σ x0 x1 x2 h hx0 H locs ls S hl
    rw [f_X12_roadLine_20] at h
    refine lv_iload_n hx hb dX12_roadLine_20 rfl (lv_at hl 2 rfl) ?_
    refine lv_bipush (v := (9 : Int32)) hx hb dX12_roadLine_21 (by decide) ?_
    refine lv_icmp_gt (tgt := 55) hx hb dX12_roadLine_23 (by decide) (fun c4 => ?_) (fun c4 => ?_)
    · have h := it_p c4 h
      refine lv_aload_n hx hb dX12_roadLine_55 rfl (lv_at hl 0 rfl) ?_
      have hR5 : Ok 194 (R x0 11) 10417 := hSh x0 12 11 10417 hx0.1 rfl
      refine x_getR C S KX12 hx0 11 (by decide) rfl rfl fl_RX12_88 hR5 dX12_roadLine_56 ?_
      refine lv_iconst (v := (1 : Int32)) hx hb dX12_roadLine_59 (by decide) ?_
      refine lv_dup2_11 hx hb dX12_roadLine_60 rfl rfl ?_
      obtain ⟨hi6, h⟩ := ck_el h
      refine x_iald (len := 417) C S (by decide) hR5 hi6 dX12_roadLine_61 ?_
      refine lv_iconst (v := (1 : Int32)) hx hb dX12_roadLine_62 (by decide) ?_
      refine lv_iadd hx hb dX12_roadLine_63 ?_
      obtain ⟨hi7, h⟩ := ck_el h
      obtain ⟨σ8, hs8, h⟩ := sq_el h
      refine x_iast (len := 417) C S (by decide) hR5 hi7 dX12_roadLine_64 hs8 (fun H locs S => ?_)
      exact x_vret C S hr h dX12_roadLine_65
    · have h := it_n c4 h
      refine lv_aload_n hx hb dX12_roadLine_26 rfl (lv_at hl 0 rfl) ?_
      have hR9 : Ok 194 (R x0 11) 10417 := hSh x0 12 11 10417 hx0.1 rfl
      refine x_getR C S KX12 hx0 11 (by decide) rfl rfl fl_RX12_88 hR9 dX12_roadLine_27 ?_
      refine lv_sipush (v := (225 : Int32)) hx hb dX12_roadLine_30 (by decide) ?_
      refine lv_bipush (v := (10 : Int32)) hx hb dX12_roadLine_33 (by decide) ?_
      refine lv_iload_n hx hb dX12_roadLine_35 rfl (lv_at hl 1 rfl) ?_
      refine lv_imul hx hb dX12_roadLine_36 ?_
      refine lv_iadd hx hb dX12_roadLine_37 ?_
      refine lv_iload_n hx hb dX12_roadLine_38 rfl (lv_at hl 2 rfl) ?_
      refine lv_iadd hx hb dX12_roadLine_39 ?_
      refine lv_aload_n hx hb dX12_roadLine_40 rfl (lv_at hl 0 rfl) ?_
      refine lv_iconst (v := (0 : Int32)) hx hb dX12_roadLine_41 (by decide) ?_
      refine lv_sipush (v := (999 : Int32)) hx hb dX12_roadLine_42 (by decide) ?_
      obtain ⟨a10, σ10, hc10, h⟩ := bd_el h
      refine x_callVI C S KX12 hx0 (ok_X12_number (L := L) hc10 hSh hx0) ⟨cd_X12_number, ni_RX12, ml_RX12_79, in_X12_number, sl_X12_number⟩ ⟨by decide, by decide⟩ rfl ⟨by decide, by decide⟩ hl.1 rfl (Nat.le_of_ble_eq_true rfl) ⟨by decide, by decide⟩ dX12_roadLine_45 (fun H locs S => ?_)
      obtain ⟨hi11, h⟩ := ck_el h
      obtain ⟨σ12, hs12, h⟩ := sq_el h
      refine x_iast (len := 417) C S (by decide) hR9 hi11 dX12_roadLine_48 hs12 (fun H locs S => ?_)
      refine lv_iinc (v := x2 + 1) (lv' := [(2, .int (x2 + 1)), (0, .ref (gb g + x0)), (1, .int x1)]) hx hb dX12_roadLine_49 hl (k := 2) rfl rfl (by decide) rfl (fun ls hl => ?_)
      refine lv_goto (tgt := 20) hx hb dX12_roadLine_52 (by decide) ?_
      exact ih σ12 x0 x1 (x2 + 1) h hx0 H locs ls S (lv_sub hl [1, 2, 0] rfl)
set_option maxHeartbeats 4000000 in
set_option maxRecDepth 100000 in
theorem ok_X12_roadLine {l : Launch} {g : GL} {R : Nat → Nat → Nat} {L : Nat → Nat → Int64} {N : Nat} {σ : SI} {x0 : Nat} {r : (Unit × SI)} (h : f_X12_roadLine N R σ x0 = some r) (hSh : ShR R) (hx0 : Ok 194 x0 12) : Ct l g 5 yX12_roadLine cX12_roadLine 3 none 194 194 0 0 [.ref (gb g + x0)] (mkS σ R L) (PV R L r) := by
  refine Met.ofW (cc := cX12_roadLine) (maxL := 3) (ret := none) (by decide) rfl ?_
  intro p e s m args below meth c s₁ B hml hv
  obtain ⟨rfl, hE, hLo, hWd⟩ := hv
  have hr : meth.sig.returnType = none := B.returns
  have C : Cx l g p s m meth c cX12_roadLine 3 RX12 := ⟨B.exec, B.bytes, hml, findClass_of_methodNamed B.named, hE, hLo, B.notSynchronized⟩
  have S : S2 g s σ R L s.heap [] := ⟨hWd, va_S.rf⟩
  have hx := C.1
  have hb := C.2.1
  have hl := lv_entry ([.ref (gb g + x0)]) (n := 3) (Nat.le_of_ble_eq_true rfl)
  rw [lg_entry_eq]
  generalize (lg_sl ([.ref (gb g + x0)]) ++ List.replicate (3 - (lg_sl ([.ref (gb g + x0)])).length) Slot.unset).toArray = ls at hl ⊢
  have hl : lv_has ls 3 [(0, .ref (gb g + x0))] := hl
  generalize hH : s.heap = H at S ⊢
  generalize hlc : ([] : List Loc) = locs at S ⊢
  rw [f_X12_roadLine] at h
  refine lv_aload_n hx hb dX12_roadLine_0 rfl (lv_at hl 0 rfl) ?_
  have hR1 : Ok 194 (R x0 11) 10417 := hSh x0 12 11 10417 hx0.1 rfl
  refine x_getR C S KX12 hx0 11 (by decide) rfl rfl fl_RX12_88 hR1 dX12_roadLine_1 ?_
  refine lv_iconst (v := (1 : Int32)) hx hb dX12_roadLine_4 (by decide) ?_
  obtain ⟨hi2, h⟩ := ck_el h
  refine x_iald (len := 417) C S (by decide) hR1 hi2 dX12_roadLine_5 ?_
  refine lv_istore_n (lv' := [(1, .int (σ (R x0 11) (1 : Int32).toNatClampNeg)), (0, .ref (gb g + x0))]) hx hb dX12_roadLine_6 rfl hl (by decide) rfl (fun ls hl => ?_)
  refine lv_aload_n hx hb dX12_roadLine_7 rfl (lv_at hl 1 rfl) ?_
  refine lv_sipush (v := (225 : Int32)) hx hb dX12_roadLine_8 (by decide) ?_
  refine lv_bipush (v := (10 : Int32)) hx hb dX12_roadLine_11 (by decide) ?_
  refine lv_iload_n hx hb dX12_roadLine_13 rfl (lv_at hl 0 rfl) ?_
  obtain ⟨a3, σ3, hc3, h⟩ := bd_el h
  refine x_callVV C S KX12 hx0 (ok_X12_name (L := L) hc3 hSh hx0) ⟨cd_X12_name, ni_RX12, ml_RX12_131, in_X12_name, sl_X12_name⟩ ⟨by decide, by decide⟩ rfl ⟨by decide, by decide⟩ hl.1 rfl (Nat.le_of_ble_eq_true rfl) ⟨by decide, by decide⟩ dX12_roadLine_14 (fun H locs S => ?_)
  refine lv_bipush (v := (6 : Int32)) hx hb dX12_roadLine_17 (by decide) ?_
  refine lv_istore_n (lv' := [(2, .int (6 : Int32)), (1, .int (σ (R x0 11) (1 : Int32).toNatClampNeg)), (0, .ref (gb g + x0))]) hx hb dX12_roadLine_19 rfl hl (by decide) rfl (fun ls hl => ?_)
  exact w_X12_roadLine_20 C hr hSh N σ3 x0 (σ (R x0 11) (1 : Int32).toNatClampNeg) (6 : Int32) h hx0 H locs ls S (lv_sub hl [2, 1, 0] rfl)
theorem dX12_noBlast_0 : decode cX12_noBlast 0 = .ok (.aload_n 0, 1) := by decide +kernel
theorem dX12_noBlast_1 : decode cX12_noBlast 1 = .ok (.iload_n 1, 1) := by decide +kernel
theorem dX12_noBlast_2 : decode cX12_noBlast 2 = .ok (.iconst 0, 1) := by decide +kernel
theorem dX12_noBlast_3 : decode cX12_noBlast 3 = .ok (.aload_n 0, 1) := by decide +kernel
theorem dX12_noBlast_4 : decode cX12_noBlast 4 = .ok (.invokevirtual 142, 3) := by decide +kernel
theorem dX12_noBlast_7 : decode cX12_noBlast 7 = .ok (.iconst 1, 1) := by decide +kernel
theorem dX12_noBlast_8 : decode cX12_noBlast 8 = .ok (.isub, 1) := by decide +kernel
theorem dX12_noBlast_9 : decode cX12_noBlast 9 = .ok (.invokestatic 71, 3) := by decide +kernel
theorem dX12_noBlast_12 : decode cX12_noBlast 12 = .ok (.ifCond .ne 7, 3) := by decide +kernel
theorem dX12_noBlast_15 : decode cX12_noBlast 15 = .ok (.iconst 1, 1) := by decide +kernel
theorem dX12_noBlast_16 : decode cX12_noBlast 16 = .ok (.goto 4, 3) := by decide +kernel
theorem dX12_noBlast_19 : decode cX12_noBlast 19 = .ok (.iconst 0, 1) := by decide +kernel
theorem dX12_noBlast_20 : decode cX12_noBlast 20 = .ok (.iconst 1, 1) := by decide +kernel
theorem dX12_noBlast_21 : decode cX12_noBlast 21 = .ok (.invokevirtual 185, 3) := by decide +kernel
theorem dX12_noBlast_24 : decode cX12_noBlast 24 = .ok (.ireturn, 1) := by decide +kernel
def f_X12_noBlast (N : Nat) (R : Nat → Nat → Nat) (σ : SI) (x0 : Nat) (x1 : Int32) : Option (Int32 × SI) := bd (f_X12_blasts N R σ x0) (fun a1 σ1 => bd (f_X12_in N R σ1 x1 (0 : Int32) (a1 - (1 : Int32))) (fun a2 σ2 => if a2 = 0 then (bd (f_X12_throwsIf N R σ2 x0 (1 : Int32) (1 : Int32)) (fun a6 σ6 => cb a6 (some (a6, σ6)))) else (bd (f_X12_throwsIf N R σ2 x0 (0 : Int32) (1 : Int32)) (fun a4 σ4 => cb a4 (some (a4, σ4))))))
set_option maxHeartbeats 4000000 in
set_option maxRecDepth 100000 in
theorem ok_X12_noBlast {l : Launch} {g : GL} {R : Nat → Nat → Nat} {L : Nat → Nat → Int64} {N : Nat} {σ : SI} {x0 : Nat} {x1 : Int32} {r : (Int32 × SI)} (h : f_X12_noBlast N R σ x0 x1 = some r) (hSh : ShR R) (hx0 : Ok 194 x0 12) : Ct l g 2 yX12_noBlast cX12_noBlast 2 (some .boolean) 194 194 0 0 [.ref (gb g + x0), .int x1] (mkS σ R L) (PI R L r) := by
  refine Met.ofW (cc := cX12_noBlast) (maxL := 2) (ret := (some .boolean)) (by decide) rfl ?_
  intro p e s m args below meth c s₁ B hml hv
  obtain ⟨rfl, hE, hLo, hWd⟩ := hv
  have hr : meth.sig.returnType = (some .boolean) := B.returns
  have C : Cx l g p s m meth c cX12_noBlast 2 RX12 := ⟨B.exec, B.bytes, hml, findClass_of_methodNamed B.named, hE, hLo, B.notSynchronized⟩
  have S : S2 g s σ R L s.heap [] := ⟨hWd, va_S.rf⟩
  have hx := C.1
  have hb := C.2.1
  have hl := lv_entry ([.ref (gb g + x0), .int x1]) (n := 2) (Nat.le_of_ble_eq_true rfl)
  rw [lg_entry_eq]
  generalize (lg_sl ([.ref (gb g + x0), .int x1]) ++ List.replicate (2 - (lg_sl ([.ref (gb g + x0), .int x1])).length) Slot.unset).toArray = ls at hl ⊢
  have hl : lv_has ls 2 [(0, .ref (gb g + x0)), (1, .int x1)] := hl
  generalize hH : s.heap = H at S ⊢
  generalize hlc : ([] : List Loc) = locs at S ⊢
  rw [f_X12_noBlast] at h
  refine lv_aload_n hx hb dX12_noBlast_0 rfl (lv_at hl 0 rfl) ?_
  refine lv_iload_n hx hb dX12_noBlast_1 rfl (lv_at hl 1 rfl) ?_
  refine lv_iconst (v := (0 : Int32)) hx hb dX12_noBlast_2 (by decide) ?_
  refine lv_aload_n hx hb dX12_noBlast_3 rfl (lv_at hl 0 rfl) ?_
  obtain ⟨a1, σ1, hc1, h⟩ := bd_el h
  refine x_callVI C S KX12 hx0 (ok_X12_blasts (L := L) hc1 hSh hx0) ⟨cd_X12_blasts, ni_RX12, ml_RX12_142, in_X12_blasts, sl_X12_blasts⟩ ⟨by decide, by decide⟩ rfl ⟨by decide, by decide⟩ hl.1 rfl (Nat.le_of_ble_eq_true rfl) ⟨by decide, by decide⟩ dX12_noBlast_4 (fun H locs S => ?_)
  refine lv_iconst (v := (1 : Int32)) hx hb dX12_noBlast_7 (by decide) ?_
  refine lv_isub hx hb dX12_noBlast_8 ?_
  obtain ⟨a2, σ2, hc2, h⟩ := bd_el h
  refine x_callSI C S (ok_X12_in (L := L) hc2 hSh) ⟨cd_X12_in, ni_RX12, ml_RX12_71, st_X12_in⟩ ⟨by decide, by decide⟩ rfl ⟨by decide, by decide⟩ hl.1 rfl (Nat.le_of_ble_eq_true rfl) ⟨by decide, by decide⟩ dX12_noBlast_9 (fun H locs S => ?_)
  refine lv_if_ne (tgt := 19) hx hb dX12_noBlast_12 (by decide) (fun c3 => ?_) (fun c3 => ?_)
  · have h := it_n c3 h
    refine lv_iconst (v := (0 : Int32)) hx hb dX12_noBlast_19 (by decide) ?_
    refine lv_iconst (v := (1 : Int32)) hx hb dX12_noBlast_20 (by decide) ?_
    obtain ⟨a4, σ4, hc4, h⟩ := bd_el h
    refine x_callVI C S KX12 hx0 (ok_X12_throwsIf (L := L) hc4 hSh hx0) ⟨cd_X12_throwsIf, ni_RX12, ml_RX12_185, in_X12_throwsIf, sl_X12_throwsIf⟩ ⟨by decide, by decide⟩ rfl ⟨by decide, by decide⟩ hl.1 rfl (Nat.le_of_ble_eq_true rfl) ⟨by decide, by decide⟩ dX12_noBlast_21 (fun H locs S => ?_)
    obtain ⟨hb5, h⟩ := cb_el h
    exact x_zret C S hr hb5 h dX12_noBlast_24
  · have h := it_p c3 h
    refine lv_iconst (v := (1 : Int32)) hx hb dX12_noBlast_15 (by decide) ?_
    refine lv_goto (tgt := 20) hx hb dX12_noBlast_16 (by decide) ?_
    refine lv_iconst (v := (1 : Int32)) hx hb dX12_noBlast_20 (by decide) ?_
    obtain ⟨a6, σ6, hc6, h⟩ := bd_el h
    refine x_callVI C S KX12 hx0 (ok_X12_throwsIf (L := L) hc6 hSh hx0) ⟨cd_X12_throwsIf, ni_RX12, ml_RX12_185, in_X12_throwsIf, sl_X12_throwsIf⟩ ⟨by decide, by decide⟩ rfl ⟨by decide, by decide⟩ hl.1 rfl (Nat.le_of_ble_eq_true rfl) ⟨by decide, by decide⟩ dX12_noBlast_21 (fun H locs S => ?_)
    obtain ⟨hb7, h⟩ := cb_el h
    exact x_zret C S hr hb7 h dX12_noBlast_24
theorem dX12_noNear_0 : decode cX12_noNear 0 = .ok (.aload_n 0, 1) := by decide +kernel
theorem dX12_noNear_1 : decode cX12_noNear 1 = .ok (.iload_n 1, 1) := by decide +kernel
theorem dX12_noNear_2 : decode cX12_noNear 2 = .ok (.iconst 0, 1) := by decide +kernel
theorem dX12_noNear_3 : decode cX12_noNear 3 = .ok (.aload_n 0, 1) := by decide +kernel
theorem dX12_noNear_4 : decode cX12_noNear 4 = .ok (.getfield 88, 3) := by decide +kernel
theorem dX12_noNear_7 : decode cX12_noNear 7 = .ok (.iconst 0, 1) := by decide +kernel
theorem dX12_noNear_8 : decode cX12_noNear 8 = .ok (.iaload, 1) := by decide +kernel
theorem dX12_noNear_9 : decode cX12_noNear 9 = .ok (.iconst 1, 1) := by decide +kernel
theorem dX12_noNear_10 : decode cX12_noNear 10 = .ok (.isub, 1) := by decide +kernel
theorem dX12_noNear_11 : decode cX12_noNear 11 = .ok (.invokestatic 71, 3) := by decide +kernel
theorem dX12_noNear_14 : decode cX12_noNear 14 = .ok (.ifCond .ne 7, 3) := by decide +kernel
theorem dX12_noNear_17 : decode cX12_noNear 17 = .ok (.iconst 1, 1) := by decide +kernel
theorem dX12_noNear_18 : decode cX12_noNear 18 = .ok (.goto 4, 3) := by decide +kernel
theorem dX12_noNear_21 : decode cX12_noNear 21 = .ok (.iconst 0, 1) := by decide +kernel
theorem dX12_noNear_22 : decode cX12_noNear 22 = .ok (.iconst 1, 1) := by decide +kernel
theorem dX12_noNear_23 : decode cX12_noNear 23 = .ok (.invokevirtual 185, 3) := by decide +kernel
theorem dX12_noNear_26 : decode cX12_noNear 26 = .ok (.ireturn, 1) := by decide +kernel
def f_X12_noNear (N : Nat) (R : Nat → Nat → Nat) (σ : SI) (x0 : Nat) (x1 : Int32) : Option (Int32 × SI) := ck (0 : Int32) 417 (bd (f_X12_in N R σ x1 (0 : Int32) ((σ (R x0 11) (0 : Int32).toNatClampNeg) - (1 : Int32))) (fun a3 σ3 => if a3 = 0 then (bd (f_X12_throwsIf N R σ3 x0 (1 : Int32) (1 : Int32)) (fun a7 σ7 => cb a7 (some (a7, σ7)))) else (bd (f_X12_throwsIf N R σ3 x0 (0 : Int32) (1 : Int32)) (fun a5 σ5 => cb a5 (some (a5, σ5))))))
set_option maxHeartbeats 4000000 in
set_option maxRecDepth 100000 in
theorem ok_X12_noNear {l : Launch} {g : GL} {R : Nat → Nat → Nat} {L : Nat → Nat → Int64} {N : Nat} {σ : SI} {x0 : Nat} {x1 : Int32} {r : (Int32 × SI)} (h : f_X12_noNear N R σ x0 x1 = some r) (hSh : ShR R) (hx0 : Ok 194 x0 12) : Ct l g 2 yX12_noNear cX12_noNear 2 (some .boolean) 194 194 0 0 [.ref (gb g + x0), .int x1] (mkS σ R L) (PI R L r) := by
  refine Met.ofW (cc := cX12_noNear) (maxL := 2) (ret := (some .boolean)) (by decide) rfl ?_
  intro p e s m args below meth c s₁ B hml hv
  obtain ⟨rfl, hE, hLo, hWd⟩ := hv
  have hr : meth.sig.returnType = (some .boolean) := B.returns
  have C : Cx l g p s m meth c cX12_noNear 2 RX12 := ⟨B.exec, B.bytes, hml, findClass_of_methodNamed B.named, hE, hLo, B.notSynchronized⟩
  have S : S2 g s σ R L s.heap [] := ⟨hWd, va_S.rf⟩
  have hx := C.1
  have hb := C.2.1
  have hl := lv_entry ([.ref (gb g + x0), .int x1]) (n := 2) (Nat.le_of_ble_eq_true rfl)
  rw [lg_entry_eq]
  generalize (lg_sl ([.ref (gb g + x0), .int x1]) ++ List.replicate (2 - (lg_sl ([.ref (gb g + x0), .int x1])).length) Slot.unset).toArray = ls at hl ⊢
  have hl : lv_has ls 2 [(0, .ref (gb g + x0)), (1, .int x1)] := hl
  generalize hH : s.heap = H at S ⊢
  generalize hlc : ([] : List Loc) = locs at S ⊢
  rw [f_X12_noNear] at h
  refine lv_aload_n hx hb dX12_noNear_0 rfl (lv_at hl 0 rfl) ?_
  refine lv_iload_n hx hb dX12_noNear_1 rfl (lv_at hl 1 rfl) ?_
  refine lv_iconst (v := (0 : Int32)) hx hb dX12_noNear_2 (by decide) ?_
  refine lv_aload_n hx hb dX12_noNear_3 rfl (lv_at hl 0 rfl) ?_
  have hR1 : Ok 194 (R x0 11) 10417 := hSh x0 12 11 10417 hx0.1 rfl
  refine x_getR C S KX12 hx0 11 (by decide) rfl rfl fl_RX12_88 hR1 dX12_noNear_4 ?_
  refine lv_iconst (v := (0 : Int32)) hx hb dX12_noNear_7 (by decide) ?_
  obtain ⟨hi2, h⟩ := ck_el h
  refine x_iald (len := 417) C S (by decide) hR1 hi2 dX12_noNear_8 ?_
  refine lv_iconst (v := (1 : Int32)) hx hb dX12_noNear_9 (by decide) ?_
  refine lv_isub hx hb dX12_noNear_10 ?_
  obtain ⟨a3, σ3, hc3, h⟩ := bd_el h
  refine x_callSI C S (ok_X12_in (L := L) hc3 hSh) ⟨cd_X12_in, ni_RX12, ml_RX12_71, st_X12_in⟩ ⟨by decide, by decide⟩ rfl ⟨by decide, by decide⟩ hl.1 rfl (Nat.le_of_ble_eq_true rfl) ⟨by decide, by decide⟩ dX12_noNear_11 (fun H locs S => ?_)
  refine lv_if_ne (tgt := 21) hx hb dX12_noNear_14 (by decide) (fun c4 => ?_) (fun c4 => ?_)
  · have h := it_n c4 h
    refine lv_iconst (v := (0 : Int32)) hx hb dX12_noNear_21 (by decide) ?_
    refine lv_iconst (v := (1 : Int32)) hx hb dX12_noNear_22 (by decide) ?_
    obtain ⟨a5, σ5, hc5, h⟩ := bd_el h
    refine x_callVI C S KX12 hx0 (ok_X12_throwsIf (L := L) hc5 hSh hx0) ⟨cd_X12_throwsIf, ni_RX12, ml_RX12_185, in_X12_throwsIf, sl_X12_throwsIf⟩ ⟨by decide, by decide⟩ rfl ⟨by decide, by decide⟩ hl.1 rfl (Nat.le_of_ble_eq_true rfl) ⟨by decide, by decide⟩ dX12_noNear_23 (fun H locs S => ?_)
    obtain ⟨hb6, h⟩ := cb_el h
    exact x_zret C S hr hb6 h dX12_noNear_26
  · have h := it_p c4 h
    refine lv_iconst (v := (1 : Int32)) hx hb dX12_noNear_17 (by decide) ?_
    refine lv_goto (tgt := 22) hx hb dX12_noNear_18 (by decide) ?_
    refine lv_iconst (v := (1 : Int32)) hx hb dX12_noNear_22 (by decide) ?_
    obtain ⟨a7, σ7, hc7, h⟩ := bd_el h
    refine x_callVI C S KX12 hx0 (ok_X12_throwsIf (L := L) hc7 hSh hx0) ⟨cd_X12_throwsIf, ni_RX12, ml_RX12_185, in_X12_throwsIf, sl_X12_throwsIf⟩ ⟨by decide, by decide⟩ rfl ⟨by decide, by decide⟩ hl.1 rfl (Nat.le_of_ble_eq_true rfl) ⟨by decide, by decide⟩ dX12_noNear_23 (fun H locs S => ?_)
    obtain ⟨hb8, h⟩ := cb_el h
    exact x_zret C S hr hb8 h dX12_noNear_26
theorem dX12_noRoad_0 : decode cX12_noRoad 0 = .ok (.aload_n 0, 1) := by decide +kernel
theorem dX12_noRoad_1 : decode cX12_noRoad 1 = .ok (.iload_n 1, 1) := by decide +kernel
theorem dX12_noRoad_2 : decode cX12_noRoad 2 = .ok (.iconst 0, 1) := by decide +kernel
theorem dX12_noRoad_3 : decode cX12_noRoad 3 = .ok (.aload_n 0, 1) := by decide +kernel
theorem dX12_noRoad_4 : decode cX12_noRoad 4 = .ok (.getfield 88, 3) := by decide +kernel
theorem dX12_noRoad_7 : decode cX12_noRoad 7 = .ok (.iconst 1, 1) := by decide +kernel
theorem dX12_noRoad_8 : decode cX12_noRoad 8 = .ok (.iaload, 1) := by decide +kernel
theorem dX12_noRoad_9 : decode cX12_noRoad 9 = .ok (.iconst 1, 1) := by decide +kernel
theorem dX12_noRoad_10 : decode cX12_noRoad 10 = .ok (.isub, 1) := by decide +kernel
theorem dX12_noRoad_11 : decode cX12_noRoad 11 = .ok (.invokestatic 71, 3) := by decide +kernel
theorem dX12_noRoad_14 : decode cX12_noRoad 14 = .ok (.ifCond .ne 7, 3) := by decide +kernel
theorem dX12_noRoad_17 : decode cX12_noRoad 17 = .ok (.iconst 1, 1) := by decide +kernel
theorem dX12_noRoad_18 : decode cX12_noRoad 18 = .ok (.goto 4, 3) := by decide +kernel
theorem dX12_noRoad_21 : decode cX12_noRoad 21 = .ok (.iconst 0, 1) := by decide +kernel
theorem dX12_noRoad_22 : decode cX12_noRoad 22 = .ok (.iconst 1, 1) := by decide +kernel
theorem dX12_noRoad_23 : decode cX12_noRoad 23 = .ok (.invokevirtual 185, 3) := by decide +kernel
theorem dX12_noRoad_26 : decode cX12_noRoad 26 = .ok (.ireturn, 1) := by decide +kernel
def f_X12_noRoad (N : Nat) (R : Nat → Nat → Nat) (σ : SI) (x0 : Nat) (x1 : Int32) : Option (Int32 × SI) := ck (1 : Int32) 417 (bd (f_X12_in N R σ x1 (0 : Int32) ((σ (R x0 11) (1 : Int32).toNatClampNeg) - (1 : Int32))) (fun a3 σ3 => if a3 = 0 then (bd (f_X12_throwsIf N R σ3 x0 (1 : Int32) (1 : Int32)) (fun a7 σ7 => cb a7 (some (a7, σ7)))) else (bd (f_X12_throwsIf N R σ3 x0 (0 : Int32) (1 : Int32)) (fun a5 σ5 => cb a5 (some (a5, σ5))))))
set_option maxHeartbeats 4000000 in
set_option maxRecDepth 100000 in
theorem ok_X12_noRoad {l : Launch} {g : GL} {R : Nat → Nat → Nat} {L : Nat → Nat → Int64} {N : Nat} {σ : SI} {x0 : Nat} {x1 : Int32} {r : (Int32 × SI)} (h : f_X12_noRoad N R σ x0 x1 = some r) (hSh : ShR R) (hx0 : Ok 194 x0 12) : Ct l g 2 yX12_noRoad cX12_noRoad 2 (some .boolean) 194 194 0 0 [.ref (gb g + x0), .int x1] (mkS σ R L) (PI R L r) := by
  refine Met.ofW (cc := cX12_noRoad) (maxL := 2) (ret := (some .boolean)) (by decide) rfl ?_
  intro p e s m args below meth c s₁ B hml hv
  obtain ⟨rfl, hE, hLo, hWd⟩ := hv
  have hr : meth.sig.returnType = (some .boolean) := B.returns
  have C : Cx l g p s m meth c cX12_noRoad 2 RX12 := ⟨B.exec, B.bytes, hml, findClass_of_methodNamed B.named, hE, hLo, B.notSynchronized⟩
  have S : S2 g s σ R L s.heap [] := ⟨hWd, va_S.rf⟩
  have hx := C.1
  have hb := C.2.1
  have hl := lv_entry ([.ref (gb g + x0), .int x1]) (n := 2) (Nat.le_of_ble_eq_true rfl)
  rw [lg_entry_eq]
  generalize (lg_sl ([.ref (gb g + x0), .int x1]) ++ List.replicate (2 - (lg_sl ([.ref (gb g + x0), .int x1])).length) Slot.unset).toArray = ls at hl ⊢
  have hl : lv_has ls 2 [(0, .ref (gb g + x0)), (1, .int x1)] := hl
  generalize hH : s.heap = H at S ⊢
  generalize hlc : ([] : List Loc) = locs at S ⊢
  rw [f_X12_noRoad] at h
  refine lv_aload_n hx hb dX12_noRoad_0 rfl (lv_at hl 0 rfl) ?_
  refine lv_iload_n hx hb dX12_noRoad_1 rfl (lv_at hl 1 rfl) ?_
  refine lv_iconst (v := (0 : Int32)) hx hb dX12_noRoad_2 (by decide) ?_
  refine lv_aload_n hx hb dX12_noRoad_3 rfl (lv_at hl 0 rfl) ?_
  have hR1 : Ok 194 (R x0 11) 10417 := hSh x0 12 11 10417 hx0.1 rfl
  refine x_getR C S KX12 hx0 11 (by decide) rfl rfl fl_RX12_88 hR1 dX12_noRoad_4 ?_
  refine lv_iconst (v := (1 : Int32)) hx hb dX12_noRoad_7 (by decide) ?_
  obtain ⟨hi2, h⟩ := ck_el h
  refine x_iald (len := 417) C S (by decide) hR1 hi2 dX12_noRoad_8 ?_
  refine lv_iconst (v := (1 : Int32)) hx hb dX12_noRoad_9 (by decide) ?_
  refine lv_isub hx hb dX12_noRoad_10 ?_
  obtain ⟨a3, σ3, hc3, h⟩ := bd_el h
  refine x_callSI C S (ok_X12_in (L := L) hc3 hSh) ⟨cd_X12_in, ni_RX12, ml_RX12_71, st_X12_in⟩ ⟨by decide, by decide⟩ rfl ⟨by decide, by decide⟩ hl.1 rfl (Nat.le_of_ble_eq_true rfl) ⟨by decide, by decide⟩ dX12_noRoad_11 (fun H locs S => ?_)
  refine lv_if_ne (tgt := 21) hx hb dX12_noRoad_14 (by decide) (fun c4 => ?_) (fun c4 => ?_)
  · have h := it_n c4 h
    refine lv_iconst (v := (0 : Int32)) hx hb dX12_noRoad_21 (by decide) ?_
    refine lv_iconst (v := (1 : Int32)) hx hb dX12_noRoad_22 (by decide) ?_
    obtain ⟨a5, σ5, hc5, h⟩ := bd_el h
    refine x_callVI C S KX12 hx0 (ok_X12_throwsIf (L := L) hc5 hSh hx0) ⟨cd_X12_throwsIf, ni_RX12, ml_RX12_185, in_X12_throwsIf, sl_X12_throwsIf⟩ ⟨by decide, by decide⟩ rfl ⟨by decide, by decide⟩ hl.1 rfl (Nat.le_of_ble_eq_true rfl) ⟨by decide, by decide⟩ dX12_noRoad_23 (fun H locs S => ?_)
    obtain ⟨hb6, h⟩ := cb_el h
    exact x_zret C S hr hb6 h dX12_noRoad_26
  · have h := it_p c4 h
    refine lv_iconst (v := (1 : Int32)) hx hb dX12_noRoad_17 (by decide) ?_
    refine lv_goto (tgt := 22) hx hb dX12_noRoad_18 (by decide) ?_
    refine lv_iconst (v := (1 : Int32)) hx hb dX12_noRoad_22 (by decide) ?_
    obtain ⟨a7, σ7, hc7, h⟩ := bd_el h
    refine x_callVI C S KX12 hx0 (ok_X12_throwsIf (L := L) hc7 hSh hx0) ⟨cd_X12_throwsIf, ni_RX12, ml_RX12_185, in_X12_throwsIf, sl_X12_throwsIf⟩ ⟨by decide, by decide⟩ rfl ⟨by decide, by decide⟩ hl.1 rfl (Nat.le_of_ble_eq_true rfl) ⟨by decide, by decide⟩ dX12_noRoad_23 (fun H locs S => ?_)
    obtain ⟨hb8, h⟩ := cb_el h
    exact x_zret C S hr hb8 h dX12_noRoad_26
theorem dX12_noCharge_0 : decode cX12_noCharge 0 = .ok (.aload_n 0, 1) := by decide +kernel
theorem dX12_noCharge_1 : decode cX12_noCharge 1 = .ok (.iload_n 2, 1) := by decide +kernel
theorem dX12_noCharge_2 : decode cX12_noCharge 2 = .ok (.iconst 0, 1) := by decide +kernel
theorem dX12_noCharge_3 : decode cX12_noCharge 3 = .ok (.aload_n 0, 1) := by decide +kernel
theorem dX12_noCharge_4 : decode cX12_noCharge 4 = .ok (.iload_n 1, 1) := by decide +kernel
theorem dX12_noCharge_5 : decode cX12_noCharge 5 = .ok (.bipush 9, 2) := by decide +kernel
theorem dX12_noCharge_7 : decode cX12_noCharge 7 = .ok (.invokevirtual 192, 3) := by decide +kernel
theorem dX12_noCharge_10 : decode cX12_noCharge 10 = .ok (.iconst 1, 1) := by decide +kernel
theorem dX12_noCharge_11 : decode cX12_noCharge 11 = .ok (.isub, 1) := by decide +kernel
theorem dX12_noCharge_12 : decode cX12_noCharge 12 = .ok (.invokestatic 71, 3) := by decide +kernel
theorem dX12_noCharge_15 : decode cX12_noCharge 15 = .ok (.ifCond .ne 7, 3) := by decide +kernel
theorem dX12_noCharge_18 : decode cX12_noCharge 18 = .ok (.iconst 1, 1) := by decide +kernel
theorem dX12_noCharge_19 : decode cX12_noCharge 19 = .ok (.goto 4, 3) := by decide +kernel
theorem dX12_noCharge_22 : decode cX12_noCharge 22 = .ok (.iconst 0, 1) := by decide +kernel
theorem dX12_noCharge_23 : decode cX12_noCharge 23 = .ok (.iconst 1, 1) := by decide +kernel
theorem dX12_noCharge_24 : decode cX12_noCharge 24 = .ok (.invokevirtual 185, 3) := by decide +kernel
theorem dX12_noCharge_27 : decode cX12_noCharge 27 = .ok (.ireturn, 1) := by decide +kernel
def f_X12_noCharge (N : Nat) (R : Nat → Nat → Nat) (σ : SI) (x0 : Nat) (x1 : Int32) (x2 : Int32) : Option (Int32 × SI) := bd (f_X12_ofBlast N R σ x0 x1 (9 : Int32)) (fun a1 σ1 => bd (f_X12_in N R σ1 x2 (0 : Int32) (a1 - (1 : Int32))) (fun a2 σ2 => if a2 = 0 then (bd (f_X12_throwsIf N R σ2 x0 (1 : Int32) (1 : Int32)) (fun a6 σ6 => cb a6 (some (a6, σ6)))) else (bd (f_X12_throwsIf N R σ2 x0 (0 : Int32) (1 : Int32)) (fun a4 σ4 => cb a4 (some (a4, σ4))))))
set_option maxHeartbeats 4000000 in
set_option maxRecDepth 100000 in
theorem ok_X12_noCharge {l : Launch} {g : GL} {R : Nat → Nat → Nat} {L : Nat → Nat → Int64} {N : Nat} {σ : SI} {x0 : Nat} {x1 : Int32} {x2 : Int32} {r : (Int32 × SI)} (h : f_X12_noCharge N R σ x0 x1 x2 = some r) (hSh : ShR R) (hx0 : Ok 194 x0 12) : Ct l g 2 yX12_noCharge cX12_noCharge 3 (some .boolean) 194 194 0 0 [.ref (gb g + x0), .int x1, .int x2] (mkS σ R L) (PI R L r) := by
  refine Met.ofW (cc := cX12_noCharge) (maxL := 3) (ret := (some .boolean)) (by decide) rfl ?_
  intro p e s m args below meth c s₁ B hml hv
  obtain ⟨rfl, hE, hLo, hWd⟩ := hv
  have hr : meth.sig.returnType = (some .boolean) := B.returns
  have C : Cx l g p s m meth c cX12_noCharge 3 RX12 := ⟨B.exec, B.bytes, hml, findClass_of_methodNamed B.named, hE, hLo, B.notSynchronized⟩
  have S : S2 g s σ R L s.heap [] := ⟨hWd, va_S.rf⟩
  have hx := C.1
  have hb := C.2.1
  have hl := lv_entry ([.ref (gb g + x0), .int x1, .int x2]) (n := 3) (Nat.le_of_ble_eq_true rfl)
  rw [lg_entry_eq]
  generalize (lg_sl ([.ref (gb g + x0), .int x1, .int x2]) ++ List.replicate (3 - (lg_sl ([.ref (gb g + x0), .int x1, .int x2])).length) Slot.unset).toArray = ls at hl ⊢
  have hl : lv_has ls 3 [(0, .ref (gb g + x0)), (1, .int x1), (2, .int x2)] := hl
  generalize hH : s.heap = H at S ⊢
  generalize hlc : ([] : List Loc) = locs at S ⊢
  rw [f_X12_noCharge] at h
  refine lv_aload_n hx hb dX12_noCharge_0 rfl (lv_at hl 0 rfl) ?_
  refine lv_iload_n hx hb dX12_noCharge_1 rfl (lv_at hl 2 rfl) ?_
  refine lv_iconst (v := (0 : Int32)) hx hb dX12_noCharge_2 (by decide) ?_
  refine lv_aload_n hx hb dX12_noCharge_3 rfl (lv_at hl 0 rfl) ?_
  refine lv_iload_n hx hb dX12_noCharge_4 rfl (lv_at hl 1 rfl) ?_
  refine lv_bipush (v := (9 : Int32)) hx hb dX12_noCharge_5 (by decide) ?_
  obtain ⟨a1, σ1, hc1, h⟩ := bd_el h
  refine x_callVI C S KX12 hx0 (ok_X12_ofBlast (L := L) hc1 hSh hx0) ⟨cd_X12_ofBlast, ni_RX12, ml_RX12_192, in_X12_ofBlast, sl_X12_ofBlast⟩ ⟨by decide, by decide⟩ rfl ⟨by decide, by decide⟩ hl.1 rfl (Nat.le_of_ble_eq_true rfl) ⟨by decide, by decide⟩ dX12_noCharge_7 (fun H locs S => ?_)
  refine lv_iconst (v := (1 : Int32)) hx hb dX12_noCharge_10 (by decide) ?_
  refine lv_isub hx hb dX12_noCharge_11 ?_
  obtain ⟨a2, σ2, hc2, h⟩ := bd_el h
  refine x_callSI C S (ok_X12_in (L := L) hc2 hSh) ⟨cd_X12_in, ni_RX12, ml_RX12_71, st_X12_in⟩ ⟨by decide, by decide⟩ rfl ⟨by decide, by decide⟩ hl.1 rfl (Nat.le_of_ble_eq_true rfl) ⟨by decide, by decide⟩ dX12_noCharge_12 (fun H locs S => ?_)
  refine lv_if_ne (tgt := 22) hx hb dX12_noCharge_15 (by decide) (fun c3 => ?_) (fun c3 => ?_)
  · have h := it_n c3 h
    refine lv_iconst (v := (0 : Int32)) hx hb dX12_noCharge_22 (by decide) ?_
    refine lv_iconst (v := (1 : Int32)) hx hb dX12_noCharge_23 (by decide) ?_
    obtain ⟨a4, σ4, hc4, h⟩ := bd_el h
    refine x_callVI C S KX12 hx0 (ok_X12_throwsIf (L := L) hc4 hSh hx0) ⟨cd_X12_throwsIf, ni_RX12, ml_RX12_185, in_X12_throwsIf, sl_X12_throwsIf⟩ ⟨by decide, by decide⟩ rfl ⟨by decide, by decide⟩ hl.1 rfl (Nat.le_of_ble_eq_true rfl) ⟨by decide, by decide⟩ dX12_noCharge_24 (fun H locs S => ?_)
    obtain ⟨hb5, h⟩ := cb_el h
    exact x_zret C S hr hb5 h dX12_noCharge_27
  · have h := it_p c3 h
    refine lv_iconst (v := (1 : Int32)) hx hb dX12_noCharge_18 (by decide) ?_
    refine lv_goto (tgt := 23) hx hb dX12_noCharge_19 (by decide) ?_
    refine lv_iconst (v := (1 : Int32)) hx hb dX12_noCharge_23 (by decide) ?_
    obtain ⟨a6, σ6, hc6, h⟩ := bd_el h
    refine x_callVI C S KX12 hx0 (ok_X12_throwsIf (L := L) hc6 hSh hx0) ⟨cd_X12_throwsIf, ni_RX12, ml_RX12_185, in_X12_throwsIf, sl_X12_throwsIf⟩ ⟨by decide, by decide⟩ rfl ⟨by decide, by decide⟩ hl.1 rfl (Nat.le_of_ble_eq_true rfl) ⟨by decide, by decide⟩ dX12_noCharge_24 (fun H locs S => ?_)
    obtain ⟨hb7, h⟩ := cb_el h
    exact x_zret C S hr hb7 h dX12_noCharge_27
theorem dX12_charges_0 : decode cX12_charges 0 = .ok (.aload_n 0, 1) := by decide +kernel
theorem dX12_charges_1 : decode cX12_charges 1 = .ok (.iload_n 1, 1) := by decide +kernel
theorem dX12_charges_2 : decode cX12_charges 2 = .ok (.bipush 9, 2) := by decide +kernel
theorem dX12_charges_4 : decode cX12_charges 4 = .ok (.invokevirtual 192, 3) := by decide +kernel
theorem dX12_charges_7 : decode cX12_charges 7 = .ok (.ireturn, 1) := by decide +kernel
def f_X12_charges (N : Nat) (R : Nat → Nat → Nat) (σ : SI) (x0 : Nat) (x1 : Int32) : Option (Int32 × SI) := bd (f_X12_ofBlast N R σ x0 x1 (9 : Int32)) (fun a1 σ1 => some (a1, σ1))
set_option maxHeartbeats 4000000 in
set_option maxRecDepth 100000 in
theorem ok_X12_charges {l : Launch} {g : GL} {R : Nat → Nat → Nat} {L : Nat → Nat → Int64} {N : Nat} {σ : SI} {x0 : Nat} {x1 : Int32} {r : (Int32 × SI)} (h : f_X12_charges N R σ x0 x1 = some r) (hSh : ShR R) (hx0 : Ok 194 x0 12) : Ct l g 2 yX12_charges cX12_charges 2 (some .int) 194 194 0 0 [.ref (gb g + x0), .int x1] (mkS σ R L) (PI R L r) := by
  refine Met.ofW (cc := cX12_charges) (maxL := 2) (ret := (some .int)) (by decide) rfl ?_
  intro p e s m args below meth c s₁ B hml hv
  obtain ⟨rfl, hE, hLo, hWd⟩ := hv
  have hr : meth.sig.returnType = (some .int) := B.returns
  have C : Cx l g p s m meth c cX12_charges 2 RX12 := ⟨B.exec, B.bytes, hml, findClass_of_methodNamed B.named, hE, hLo, B.notSynchronized⟩
  have S : S2 g s σ R L s.heap [] := ⟨hWd, va_S.rf⟩
  have hx := C.1
  have hb := C.2.1
  have hl := lv_entry ([.ref (gb g + x0), .int x1]) (n := 2) (Nat.le_of_ble_eq_true rfl)
  rw [lg_entry_eq]
  generalize (lg_sl ([.ref (gb g + x0), .int x1]) ++ List.replicate (2 - (lg_sl ([.ref (gb g + x0), .int x1])).length) Slot.unset).toArray = ls at hl ⊢
  have hl : lv_has ls 2 [(0, .ref (gb g + x0)), (1, .int x1)] := hl
  generalize hH : s.heap = H at S ⊢
  generalize hlc : ([] : List Loc) = locs at S ⊢
  rw [f_X12_charges] at h
  refine lv_aload_n hx hb dX12_charges_0 rfl (lv_at hl 0 rfl) ?_
  refine lv_iload_n hx hb dX12_charges_1 rfl (lv_at hl 1 rfl) ?_
  refine lv_bipush (v := (9 : Int32)) hx hb dX12_charges_2 (by decide) ?_
  obtain ⟨a1, σ1, hc1, h⟩ := bd_el h
  refine x_callVI C S KX12 hx0 (ok_X12_ofBlast (L := L) hc1 hSh hx0) ⟨cd_X12_ofBlast, ni_RX12, ml_RX12_192, in_X12_ofBlast, sl_X12_ofBlast⟩ ⟨by decide, by decide⟩ rfl ⟨by decide, by decide⟩ hl.1 rfl (Nat.le_of_ble_eq_true rfl) ⟨by decide, by decide⟩ dX12_charges_4 (fun H locs S => ?_)
  exact x_iret C S hr h dX12_charges_7
theorem dX12_chargeOf_0 : decode cX12_chargeOf 0 = .ok (.aload_n 0, 1) := by decide +kernel
theorem dX12_chargeOf_1 : decode cX12_chargeOf 1 = .ok (.iload_n 1, 1) := by decide +kernel
theorem dX12_chargeOf_2 : decode cX12_chargeOf 2 = .ok (.bipush 10, 2) := by decide +kernel
theorem dX12_chargeOf_4 : decode cX12_chargeOf 4 = .ok (.iload_n 2, 1) := by decide +kernel
theorem dX12_chargeOf_5 : decode cX12_chargeOf 5 = .ok (.iadd, 1) := by decide +kernel
theorem dX12_chargeOf_6 : decode cX12_chargeOf 6 = .ok (.invokevirtual 192, 3) := by decide +kernel
theorem dX12_chargeOf_9 : decode cX12_chargeOf 9 = .ok (.ireturn, 1) := by decide +kernel
def f_X12_chargeOf (N : Nat) (R : Nat → Nat → Nat) (σ : SI) (x0 : Nat) (x1 : Int32) (x2 : Int32) : Option (Int32 × SI) := bd (f_X12_ofBlast N R σ x0 x1 ((10 : Int32) + x2)) (fun a1 σ1 => some (a1, σ1))
set_option maxHeartbeats 4000000 in
set_option maxRecDepth 100000 in
theorem ok_X12_chargeOf {l : Launch} {g : GL} {R : Nat → Nat → Nat} {L : Nat → Nat → Int64} {N : Nat} {σ : SI} {x0 : Nat} {x1 : Int32} {x2 : Int32} {r : (Int32 × SI)} (h : f_X12_chargeOf N R σ x0 x1 x2 = some r) (hSh : ShR R) (hx0 : Ok 194 x0 12) : Ct l g 2 yX12_chargeOf cX12_chargeOf 3 (some .int) 194 194 0 0 [.ref (gb g + x0), .int x1, .int x2] (mkS σ R L) (PI R L r) := by
  refine Met.ofW (cc := cX12_chargeOf) (maxL := 3) (ret := (some .int)) (by decide) rfl ?_
  intro p e s m args below meth c s₁ B hml hv
  obtain ⟨rfl, hE, hLo, hWd⟩ := hv
  have hr : meth.sig.returnType = (some .int) := B.returns
  have C : Cx l g p s m meth c cX12_chargeOf 3 RX12 := ⟨B.exec, B.bytes, hml, findClass_of_methodNamed B.named, hE, hLo, B.notSynchronized⟩
  have S : S2 g s σ R L s.heap [] := ⟨hWd, va_S.rf⟩
  have hx := C.1
  have hb := C.2.1
  have hl := lv_entry ([.ref (gb g + x0), .int x1, .int x2]) (n := 3) (Nat.le_of_ble_eq_true rfl)
  rw [lg_entry_eq]
  generalize (lg_sl ([.ref (gb g + x0), .int x1, .int x2]) ++ List.replicate (3 - (lg_sl ([.ref (gb g + x0), .int x1, .int x2])).length) Slot.unset).toArray = ls at hl ⊢
  have hl : lv_has ls 3 [(0, .ref (gb g + x0)), (1, .int x1), (2, .int x2)] := hl
  generalize hH : s.heap = H at S ⊢
  generalize hlc : ([] : List Loc) = locs at S ⊢
  rw [f_X12_chargeOf] at h
  refine lv_aload_n hx hb dX12_chargeOf_0 rfl (lv_at hl 0 rfl) ?_
  refine lv_iload_n hx hb dX12_chargeOf_1 rfl (lv_at hl 1 rfl) ?_
  refine lv_bipush (v := (10 : Int32)) hx hb dX12_chargeOf_2 (by decide) ?_
  refine lv_iload_n hx hb dX12_chargeOf_4 rfl (lv_at hl 2 rfl) ?_
  refine lv_iadd hx hb dX12_chargeOf_5 ?_
  obtain ⟨a1, σ1, hc1, h⟩ := bd_el h
  refine x_callVI C S KX12 hx0 (ok_X12_ofBlast (L := L) hc1 hSh hx0) ⟨cd_X12_ofBlast, ni_RX12, ml_RX12_192, in_X12_ofBlast, sl_X12_ofBlast⟩ ⟨by decide, by decide⟩ rfl ⟨by decide, by decide⟩ hl.1 rfl (Nat.le_of_ble_eq_true rfl) ⟨by decide, by decide⟩ dX12_chargeOf_6 (fun H locs S => ?_)
  exact x_iret C S hr h dX12_chargeOf_9
theorem dX12_delayOf_0 : decode cX12_delayOf 0 = .ok (.aload_n 0, 1) := by decide +kernel
theorem dX12_delayOf_1 : decode cX12_delayOf 1 = .ok (.getfield 94, 3) := by decide +kernel
theorem dX12_delayOf_4 : decode cX12_delayOf 4 = .ok (.bipush 14, 2) := by decide +kernel
theorem dX12_delayOf_6 : decode cX12_delayOf 6 = .ok (.iload_n 1, 1) := by decide +kernel
theorem dX12_delayOf_7 : decode cX12_delayOf 7 = .ok (.imul, 1) := by decide +kernel
theorem dX12_delayOf_8 : decode cX12_delayOf 8 = .ok (.iconst 2, 1) := by decide +kernel
theorem dX12_delayOf_9 : decode cX12_delayOf 9 = .ok (.iadd, 1) := by decide +kernel
theorem dX12_delayOf_10 : decode cX12_delayOf 10 = .ok (.iload_n 2, 1) := by decide +kernel
theorem dX12_delayOf_11 : decode cX12_delayOf 11 = .ok (.iadd, 1) := by decide +kernel
theorem dX12_delayOf_12 : decode cX12_delayOf 12 = .ok (.iaload, 1) := by decide +kernel
theorem dX12_delayOf_13 : decode cX12_delayOf 13 = .ok (.ireturn, 1) := by decide +kernel
def f_X12_delayOf (N : Nat) (R : Nat → Nat → Nat) (σ : SI) (x0 : Nat) (x1 : Int32) (x2 : Int32) : Option (Int32 × SI) := ck ((((14 : Int32) * x1) + (2 : Int32)) + x2) 84 (some (σ (R x0 13) ((((14 : Int32) * x1) + (2 : Int32)) + x2).toNatClampNeg, σ))
set_option maxHeartbeats 4000000 in
set_option maxRecDepth 100000 in
theorem ok_X12_delayOf {l : Launch} {g : GL} {R : Nat → Nat → Nat} {L : Nat → Nat → Int64} {N : Nat} {σ : SI} {x0 : Nat} {x1 : Int32} {x2 : Int32} {r : (Int32 × SI)} (h : f_X12_delayOf N R σ x0 x1 x2 = some r) (hSh : ShR R) (hx0 : Ok 194 x0 12) : Ct l g 1 yX12_delayOf cX12_delayOf 3 (some .int) 194 194 0 0 [.ref (gb g + x0), .int x1, .int x2] (mkS σ R L) (PI R L r) := by
  refine Met.ofW (cc := cX12_delayOf) (maxL := 3) (ret := (some .int)) (by decide) rfl ?_
  intro p e s m args below meth c s₁ B hml hv
  obtain ⟨rfl, hE, hLo, hWd⟩ := hv
  have hr : meth.sig.returnType = (some .int) := B.returns
  have C : Cx l g p s m meth c cX12_delayOf 3 RX12 := ⟨B.exec, B.bytes, hml, findClass_of_methodNamed B.named, hE, hLo, B.notSynchronized⟩
  have S : S2 g s σ R L s.heap [] := ⟨hWd, va_S.rf⟩
  have hx := C.1
  have hb := C.2.1
  have hl := lv_entry ([.ref (gb g + x0), .int x1, .int x2]) (n := 3) (Nat.le_of_ble_eq_true rfl)
  rw [lg_entry_eq]
  generalize (lg_sl ([.ref (gb g + x0), .int x1, .int x2]) ++ List.replicate (3 - (lg_sl ([.ref (gb g + x0), .int x1, .int x2])).length) Slot.unset).toArray = ls at hl ⊢
  have hl : lv_has ls 3 [(0, .ref (gb g + x0)), (1, .int x1), (2, .int x2)] := hl
  generalize hH : s.heap = H at S ⊢
  generalize hlc : ([] : List Loc) = locs at S ⊢
  rw [f_X12_delayOf] at h
  refine lv_aload_n hx hb dX12_delayOf_0 rfl (lv_at hl 0 rfl) ?_
  have hR1 : Ok 194 (R x0 13) 10084 := hSh x0 12 13 10084 hx0.1 rfl
  refine x_getR C S KX12 hx0 13 (by decide) rfl rfl fl_RX12_94 hR1 dX12_delayOf_1 ?_
  refine lv_bipush (v := (14 : Int32)) hx hb dX12_delayOf_4 (by decide) ?_
  refine lv_iload_n hx hb dX12_delayOf_6 rfl (lv_at hl 1 rfl) ?_
  refine lv_imul hx hb dX12_delayOf_7 ?_
  refine lv_iconst (v := (2 : Int32)) hx hb dX12_delayOf_8 (by decide) ?_
  refine lv_iadd hx hb dX12_delayOf_9 ?_
  refine lv_iload_n hx hb dX12_delayOf_10 rfl (lv_at hl 2 rfl) ?_
  refine lv_iadd hx hb dX12_delayOf_11 ?_
  obtain ⟨hi2, h⟩ := ck_el h
  refine x_iald (len := 84) C S (by decide) hR1 hi2 dX12_delayOf_12 ?_
  exact x_iret C S hr h dX12_delayOf_13
theorem dX12_time_0 : decode cX12_time 0 = .ok (.aload_n 0, 1) := by decide +kernel
theorem dX12_time_1 : decode cX12_time 1 = .ok (.getfield 94, 3) := by decide +kernel
theorem dX12_time_4 : decode cX12_time 4 = .ok (.bipush 14, 2) := by decide +kernel
theorem dX12_time_6 : decode cX12_time 6 = .ok (.iload_n 1, 1) := by decide +kernel
theorem dX12_time_7 : decode cX12_time 7 = .ok (.imul, 1) := by decide +kernel
theorem dX12_time_8 : decode cX12_time 8 = .ok (.iconst 0, 1) := by decide +kernel
theorem dX12_time_9 : decode cX12_time 9 = .ok (.iadd, 1) := by decide +kernel
theorem dX12_time_10 : decode cX12_time 10 = .ok (.iaload, 1) := by decide +kernel
theorem dX12_time_11 : decode cX12_time 11 = .ok (.ireturn, 1) := by decide +kernel
def f_X12_time (N : Nat) (R : Nat → Nat → Nat) (σ : SI) (x0 : Nat) (x1 : Int32) : Option (Int32 × SI) := ck (((14 : Int32) * x1) + (0 : Int32)) 84 (some (σ (R x0 13) (((14 : Int32) * x1) + (0 : Int32)).toNatClampNeg, σ))
set_option maxHeartbeats 4000000 in
set_option maxRecDepth 100000 in
theorem ok_X12_time {l : Launch} {g : GL} {R : Nat → Nat → Nat} {L : Nat → Nat → Int64} {N : Nat} {σ : SI} {x0 : Nat} {x1 : Int32} {r : (Int32 × SI)} (h : f_X12_time N R σ x0 x1 = some r) (hSh : ShR R) (hx0 : Ok 194 x0 12) : Ct l g 1 yX12_time cX12_time 2 (some .int) 194 194 0 0 [.ref (gb g + x0), .int x1] (mkS σ R L) (PI R L r) := by
  refine Met.ofW (cc := cX12_time) (maxL := 2) (ret := (some .int)) (by decide) rfl ?_
  intro p e s m args below meth c s₁ B hml hv
  obtain ⟨rfl, hE, hLo, hWd⟩ := hv
  have hr : meth.sig.returnType = (some .int) := B.returns
  have C : Cx l g p s m meth c cX12_time 2 RX12 := ⟨B.exec, B.bytes, hml, findClass_of_methodNamed B.named, hE, hLo, B.notSynchronized⟩
  have S : S2 g s σ R L s.heap [] := ⟨hWd, va_S.rf⟩
  have hx := C.1
  have hb := C.2.1
  have hl := lv_entry ([.ref (gb g + x0), .int x1]) (n := 2) (Nat.le_of_ble_eq_true rfl)
  rw [lg_entry_eq]
  generalize (lg_sl ([.ref (gb g + x0), .int x1]) ++ List.replicate (2 - (lg_sl ([.ref (gb g + x0), .int x1])).length) Slot.unset).toArray = ls at hl ⊢
  have hl : lv_has ls 2 [(0, .ref (gb g + x0)), (1, .int x1)] := hl
  generalize hH : s.heap = H at S ⊢
  generalize hlc : ([] : List Loc) = locs at S ⊢
  rw [f_X12_time] at h
  refine lv_aload_n hx hb dX12_time_0 rfl (lv_at hl 0 rfl) ?_
  have hR1 : Ok 194 (R x0 13) 10084 := hSh x0 12 13 10084 hx0.1 rfl
  refine x_getR C S KX12 hx0 13 (by decide) rfl rfl fl_RX12_94 hR1 dX12_time_1 ?_
  refine lv_bipush (v := (14 : Int32)) hx hb dX12_time_4 (by decide) ?_
  refine lv_iload_n hx hb dX12_time_6 rfl (lv_at hl 1 rfl) ?_
  refine lv_imul hx hb dX12_time_7 ?_
  refine lv_iconst (v := (0 : Int32)) hx hb dX12_time_8 (by decide) ?_
  refine lv_iadd hx hb dX12_time_9 ?_
  obtain ⟨hi2, h⟩ := ck_el h
  refine x_iald (len := 84) C S (by decide) hR1 hi2 dX12_time_10 ?_
  exact x_iret C S hr h dX12_time_11
theorem dX12_hasFired_0 : decode cX12_hasFired 0 = .ok (.aload_n 0, 1) := by decide +kernel
theorem dX12_hasFired_1 : decode cX12_hasFired 1 = .ok (.getfield 94, 3) := by decide +kernel
theorem dX12_hasFired_4 : decode cX12_hasFired 4 = .ok (.bipush 14, 2) := by decide +kernel
theorem dX12_hasFired_6 : decode cX12_hasFired 6 = .ok (.iload_n 1, 1) := by decide +kernel
theorem dX12_hasFired_7 : decode cX12_hasFired 7 = .ok (.imul, 1) := by decide +kernel
theorem dX12_hasFired_8 : decode cX12_hasFired 8 = .ok (.iconst 1, 1) := by decide +kernel
theorem dX12_hasFired_9 : decode cX12_hasFired 9 = .ok (.iadd, 1) := by decide +kernel
theorem dX12_hasFired_10 : decode cX12_hasFired 10 = .ok (.iaload, 1) := by decide +kernel
theorem dX12_hasFired_11 : decode cX12_hasFired 11 = .ok (.iconst 1, 1) := by decide +kernel
theorem dX12_hasFired_12 : decode cX12_hasFired 12 = .ok (.if_icmp .ne 7, 3) := by decide +kernel
theorem dX12_hasFired_15 : decode cX12_hasFired 15 = .ok (.iconst 1, 1) := by decide +kernel
theorem dX12_hasFired_16 : decode cX12_hasFired 16 = .ok (.goto 4, 3) := by decide +kernel
theorem dX12_hasFired_19 : decode cX12_hasFired 19 = .ok (.iconst 0, 1) := by decide +kernel
theorem dX12_hasFired_20 : decode cX12_hasFired 20 = .ok (.ireturn, 1) := by decide +kernel
def f_X12_hasFired (N : Nat) (R : Nat → Nat → Nat) (σ : SI) (x0 : Nat) (x1 : Int32) : Option (Int32 × SI) := ck (((14 : Int32) * x1) + (1 : Int32)) 84 (if (σ (R x0 13) (((14 : Int32) * x1) + (1 : Int32)).toNatClampNeg) = (1 : Int32) then (some ((1 : Int32), σ)) else (some ((0 : Int32), σ)))
set_option maxHeartbeats 4000000 in
set_option maxRecDepth 100000 in
theorem ok_X12_hasFired {l : Launch} {g : GL} {R : Nat → Nat → Nat} {L : Nat → Nat → Int64} {N : Nat} {σ : SI} {x0 : Nat} {x1 : Int32} {r : (Int32 × SI)} (h : f_X12_hasFired N R σ x0 x1 = some r) (hSh : ShR R) (hx0 : Ok 194 x0 12) : Ct l g 1 yX12_hasFired cX12_hasFired 2 (some .boolean) 194 194 0 0 [.ref (gb g + x0), .int x1] (mkS σ R L) (PI R L r) := by
  refine Met.ofW (cc := cX12_hasFired) (maxL := 2) (ret := (some .boolean)) (by decide) rfl ?_
  intro p e s m args below meth c s₁ B hml hv
  obtain ⟨rfl, hE, hLo, hWd⟩ := hv
  have hr : meth.sig.returnType = (some .boolean) := B.returns
  have C : Cx l g p s m meth c cX12_hasFired 2 RX12 := ⟨B.exec, B.bytes, hml, findClass_of_methodNamed B.named, hE, hLo, B.notSynchronized⟩
  have S : S2 g s σ R L s.heap [] := ⟨hWd, va_S.rf⟩
  have hx := C.1
  have hb := C.2.1
  have hl := lv_entry ([.ref (gb g + x0), .int x1]) (n := 2) (Nat.le_of_ble_eq_true rfl)
  rw [lg_entry_eq]
  generalize (lg_sl ([.ref (gb g + x0), .int x1]) ++ List.replicate (2 - (lg_sl ([.ref (gb g + x0), .int x1])).length) Slot.unset).toArray = ls at hl ⊢
  have hl : lv_has ls 2 [(0, .ref (gb g + x0)), (1, .int x1)] := hl
  generalize hH : s.heap = H at S ⊢
  generalize hlc : ([] : List Loc) = locs at S ⊢
  rw [f_X12_hasFired] at h
  refine lv_aload_n hx hb dX12_hasFired_0 rfl (lv_at hl 0 rfl) ?_
  have hR1 : Ok 194 (R x0 13) 10084 := hSh x0 12 13 10084 hx0.1 rfl
  refine x_getR C S KX12 hx0 13 (by decide) rfl rfl fl_RX12_94 hR1 dX12_hasFired_1 ?_
  refine lv_bipush (v := (14 : Int32)) hx hb dX12_hasFired_4 (by decide) ?_
  refine lv_iload_n hx hb dX12_hasFired_6 rfl (lv_at hl 1 rfl) ?_
  refine lv_imul hx hb dX12_hasFired_7 ?_
  refine lv_iconst (v := (1 : Int32)) hx hb dX12_hasFired_8 (by decide) ?_
  refine lv_iadd hx hb dX12_hasFired_9 ?_
  obtain ⟨hi2, h⟩ := ck_el h
  refine x_iald (len := 84) C S (by decide) hR1 hi2 dX12_hasFired_10 ?_
  refine lv_iconst (v := (1 : Int32)) hx hb dX12_hasFired_11 (by decide) ?_
  refine lv_icmp_ne (tgt := 19) hx hb dX12_hasFired_12 (by decide) (fun c3 => ?_) (fun c3 => ?_)
  · have h := it_n c3 h
    refine lv_iconst (v := (0 : Int32)) hx hb dX12_hasFired_19 (by decide) ?_
    exact x_zret C S hr (by decide) h dX12_hasFired_20
  · have h := it_p c3 h
    refine lv_iconst (v := (1 : Int32)) hx hb dX12_hasFired_15 (by decide) ?_
    refine lv_goto (tgt := 20) hx hb dX12_hasFired_16 (by decide) ?_
    exact x_zret C S hr (by decide) h dX12_hasFired_20
theorem dX12_starts_0 : decode cX12_starts 0 = .ok (.aload_n 0, 1) := by decide +kernel
theorem dX12_starts_1 : decode cX12_starts 1 = .ok (.getfield 88, 3) := by decide +kernel
theorem dX12_starts_4 : decode cX12_starts 4 = .ok (.iconst 4, 1) := by decide +kernel
theorem dX12_starts_5 : decode cX12_starts 5 = .ok (.iaload, 1) := by decide +kernel
theorem dX12_starts_6 : decode cX12_starts 6 = .ok (.aload_n 0, 1) := by decide +kernel
theorem dX12_starts_7 : decode cX12_starts 7 = .ok (.getfield 88, 3) := by decide +kernel
theorem dX12_starts_10 : decode cX12_starts 10 = .ok (.iconst 3, 1) := by decide +kernel
theorem dX12_starts_11 : decode cX12_starts 11 = .ok (.iaload, 1) := by decide +kernel
theorem dX12_starts_12 : decode cX12_starts 12 = .ok (.isub, 1) := by decide +kernel
theorem dX12_starts_13 : decode cX12_starts 13 = .ok (.aload_n 0, 1) := by decide +kernel
theorem dX12_starts_14 : decode cX12_starts 14 = .ok (.getfield 88, 3) := by decide +kernel
theorem dX12_starts_17 : decode cX12_starts 17 = .ok (.iconst 5, 1) := by decide +kernel
theorem dX12_starts_18 : decode cX12_starts 18 = .ok (.iaload, 1) := by decide +kernel
theorem dX12_starts_19 : decode cX12_starts 19 = .ok (.idiv, 1) := by decide +kernel
theorem dX12_starts_20 : decode cX12_starts 20 = .ok (.iconst 1, 1) := by decide +kernel
theorem dX12_starts_21 : decode cX12_starts 21 = .ok (.iadd, 1) := by decide +kernel
theorem dX12_starts_22 : decode cX12_starts 22 = .ok (.ireturn, 1) := by decide +kernel
def f_X12_starts (N : Nat) (R : Nat → Nat → Nat) (σ : SI) (x0 : Nat) : Option (Int32 × SI) := ck (4 : Int32) 417 (ck (3 : Int32) 417 (ck (5 : Int32) 417 (cd (σ (R x0 11) (5 : Int32).toNatClampNeg) (some ((((σ (R x0 11) (4 : Int32).toNatClampNeg) - (σ (R x0 11) (3 : Int32).toNatClampNeg)) / (σ (R x0 11) (5 : Int32).toNatClampNeg)) + (1 : Int32), σ)))))
set_option maxHeartbeats 4000000 in
set_option maxRecDepth 100000 in
theorem ok_X12_starts {l : Launch} {g : GL} {R : Nat → Nat → Nat} {L : Nat → Nat → Int64} {N : Nat} {σ : SI} {x0 : Nat} {r : (Int32 × SI)} (h : f_X12_starts N R σ x0 = some r) (hSh : ShR R) (hx0 : Ok 194 x0 12) : Ct l g 1 yX12_starts cX12_starts 1 (some .int) 194 194 0 0 [.ref (gb g + x0)] (mkS σ R L) (PI R L r) := by
  refine Met.ofW (cc := cX12_starts) (maxL := 1) (ret := (some .int)) (by decide) rfl ?_
  intro p e s m args below meth c s₁ B hml hv
  obtain ⟨rfl, hE, hLo, hWd⟩ := hv
  have hr : meth.sig.returnType = (some .int) := B.returns
  have C : Cx l g p s m meth c cX12_starts 1 RX12 := ⟨B.exec, B.bytes, hml, findClass_of_methodNamed B.named, hE, hLo, B.notSynchronized⟩
  have S : S2 g s σ R L s.heap [] := ⟨hWd, va_S.rf⟩
  have hx := C.1
  have hb := C.2.1
  have hl := lv_entry ([.ref (gb g + x0)]) (n := 1) (Nat.le_of_ble_eq_true rfl)
  rw [lg_entry_eq]
  generalize (lg_sl ([.ref (gb g + x0)]) ++ List.replicate (1 - (lg_sl ([.ref (gb g + x0)])).length) Slot.unset).toArray = ls at hl ⊢
  have hl : lv_has ls 1 [(0, .ref (gb g + x0))] := hl
  generalize hH : s.heap = H at S ⊢
  generalize hlc : ([] : List Loc) = locs at S ⊢
  rw [f_X12_starts] at h
  refine lv_aload_n hx hb dX12_starts_0 rfl (lv_at hl 0 rfl) ?_
  have hR1 : Ok 194 (R x0 11) 10417 := hSh x0 12 11 10417 hx0.1 rfl
  refine x_getR C S KX12 hx0 11 (by decide) rfl rfl fl_RX12_88 hR1 dX12_starts_1 ?_
  refine lv_iconst (v := (4 : Int32)) hx hb dX12_starts_4 (by decide) ?_
  obtain ⟨hi2, h⟩ := ck_el h
  refine x_iald (len := 417) C S (by decide) hR1 hi2 dX12_starts_5 ?_
  refine lv_aload_n hx hb dX12_starts_6 rfl (lv_at hl 0 rfl) ?_
  have hR3 : Ok 194 (R x0 11) 10417 := hSh x0 12 11 10417 hx0.1 rfl
  refine x_getR C S KX12 hx0 11 (by decide) rfl rfl fl_RX12_88 hR3 dX12_starts_7 ?_
  refine lv_iconst (v := (3 : Int32)) hx hb dX12_starts_10 (by decide) ?_
  obtain ⟨hi4, h⟩ := ck_el h
  refine x_iald (len := 417) C S (by decide) hR3 hi4 dX12_starts_11 ?_
  refine lv_isub hx hb dX12_starts_12 ?_
  refine lv_aload_n hx hb dX12_starts_13 rfl (lv_at hl 0 rfl) ?_
  have hR5 : Ok 194 (R x0 11) 10417 := hSh x0 12 11 10417 hx0.1 rfl
  refine x_getR C S KX12 hx0 11 (by decide) rfl rfl fl_RX12_88 hR5 dX12_starts_14 ?_
  refine lv_iconst (v := (5 : Int32)) hx hb dX12_starts_17 (by decide) ?_
  obtain ⟨hi6, h⟩ := ck_el h
  refine x_iald (len := 417) C S (by decide) hR5 hi6 dX12_starts_18 ?_
  obtain ⟨hz7, h⟩ := cd_el h
  refine lv_idiv hx hb dX12_starts_19 hz7 ?_
  refine lv_iconst (v := (1 : Int32)) hx hb dX12_starts_20 (by decide) ?_
  refine lv_iadd hx hb dX12_starts_21 ?_
  exact x_iret C S hr h dX12_starts_22
theorem dX12_startAt_0 : decode cX12_startAt 0 = .ok (.aload_n 0, 1) := by decide +kernel
theorem dX12_startAt_1 : decode cX12_startAt 1 = .ok (.getfield 88, 3) := by decide +kernel
theorem dX12_startAt_4 : decode cX12_startAt 4 = .ok (.iconst 3, 1) := by decide +kernel
theorem dX12_startAt_5 : decode cX12_startAt 5 = .ok (.iaload, 1) := by decide +kernel
theorem dX12_startAt_6 : decode cX12_startAt 6 = .ok (.aload_n 0, 1) := by decide +kernel
theorem dX12_startAt_7 : decode cX12_startAt 7 = .ok (.getfield 88, 3) := by decide +kernel
theorem dX12_startAt_10 : decode cX12_startAt 10 = .ok (.iconst 5, 1) := by decide +kernel
theorem dX12_startAt_11 : decode cX12_startAt 11 = .ok (.iaload, 1) := by decide +kernel
theorem dX12_startAt_12 : decode cX12_startAt 12 = .ok (.iload_n 1, 1) := by decide +kernel
theorem dX12_startAt_13 : decode cX12_startAt 13 = .ok (.imul, 1) := by decide +kernel
theorem dX12_startAt_14 : decode cX12_startAt 14 = .ok (.iadd, 1) := by decide +kernel
theorem dX12_startAt_15 : decode cX12_startAt 15 = .ok (.ireturn, 1) := by decide +kernel
def f_X12_startAt (N : Nat) (R : Nat → Nat → Nat) (σ : SI) (x0 : Nat) (x1 : Int32) : Option (Int32 × SI) := ck (3 : Int32) 417 (ck (5 : Int32) 417 (some ((σ (R x0 11) (3 : Int32).toNatClampNeg) + ((σ (R x0 11) (5 : Int32).toNatClampNeg) * x1), σ)))
set_option maxHeartbeats 4000000 in
set_option maxRecDepth 100000 in
theorem ok_X12_startAt {l : Launch} {g : GL} {R : Nat → Nat → Nat} {L : Nat → Nat → Int64} {N : Nat} {σ : SI} {x0 : Nat} {x1 : Int32} {r : (Int32 × SI)} (h : f_X12_startAt N R σ x0 x1 = some r) (hSh : ShR R) (hx0 : Ok 194 x0 12) : Ct l g 1 yX12_startAt cX12_startAt 2 (some .int) 194 194 0 0 [.ref (gb g + x0), .int x1] (mkS σ R L) (PI R L r) := by
  refine Met.ofW (cc := cX12_startAt) (maxL := 2) (ret := (some .int)) (by decide) rfl ?_
  intro p e s m args below meth c s₁ B hml hv
  obtain ⟨rfl, hE, hLo, hWd⟩ := hv
  have hr : meth.sig.returnType = (some .int) := B.returns
  have C : Cx l g p s m meth c cX12_startAt 2 RX12 := ⟨B.exec, B.bytes, hml, findClass_of_methodNamed B.named, hE, hLo, B.notSynchronized⟩
  have S : S2 g s σ R L s.heap [] := ⟨hWd, va_S.rf⟩
  have hx := C.1
  have hb := C.2.1
  have hl := lv_entry ([.ref (gb g + x0), .int x1]) (n := 2) (Nat.le_of_ble_eq_true rfl)
  rw [lg_entry_eq]
  generalize (lg_sl ([.ref (gb g + x0), .int x1]) ++ List.replicate (2 - (lg_sl ([.ref (gb g + x0), .int x1])).length) Slot.unset).toArray = ls at hl ⊢
  have hl : lv_has ls 2 [(0, .ref (gb g + x0)), (1, .int x1)] := hl
  generalize hH : s.heap = H at S ⊢
  generalize hlc : ([] : List Loc) = locs at S ⊢
  rw [f_X12_startAt] at h
  refine lv_aload_n hx hb dX12_startAt_0 rfl (lv_at hl 0 rfl) ?_
  have hR1 : Ok 194 (R x0 11) 10417 := hSh x0 12 11 10417 hx0.1 rfl
  refine x_getR C S KX12 hx0 11 (by decide) rfl rfl fl_RX12_88 hR1 dX12_startAt_1 ?_
  refine lv_iconst (v := (3 : Int32)) hx hb dX12_startAt_4 (by decide) ?_
  obtain ⟨hi2, h⟩ := ck_el h
  refine x_iald (len := 417) C S (by decide) hR1 hi2 dX12_startAt_5 ?_
  refine lv_aload_n hx hb dX12_startAt_6 rfl (lv_at hl 0 rfl) ?_
  have hR3 : Ok 194 (R x0 11) 10417 := hSh x0 12 11 10417 hx0.1 rfl
  refine x_getR C S KX12 hx0 11 (by decide) rfl rfl fl_RX12_88 hR3 dX12_startAt_7 ?_
  refine lv_iconst (v := (5 : Int32)) hx hb dX12_startAt_10 (by decide) ?_
  obtain ⟨hi4, h⟩ := ck_el h
  refine x_iald (len := 417) C S (by decide) hR3 hi4 dX12_startAt_11 ?_
  refine lv_iload_n hx hb dX12_startAt_12 rfl (lv_at hl 1 rfl) ?_
  refine lv_imul hx hb dX12_startAt_13 ?_
  refine lv_iadd hx hb dX12_startAt_14 ?_
  exact x_iret C S hr h dX12_startAt_15
theorem dX12_blastCount_0 : decode cX12_blastCount 0 = .ok (.aload_n 0, 1) := by decide +kernel
theorem dX12_blastCount_1 : decode cX12_blastCount 1 = .ok (.iconst 0, 1) := by decide +kernel
theorem dX12_blastCount_2 : decode cX12_blastCount 2 = .ok (.putfield 3, 3) := by decide +kernel
theorem dX12_blastCount_5 : decode cX12_blastCount 5 = .ok (.aload_n 0, 1) := by decide +kernel
theorem dX12_blastCount_6 : decode cX12_blastCount 6 = .ok (.invokevirtual 142, 3) := by decide +kernel
theorem dX12_blastCount_9 : decode cX12_blastCount 9 = .ok (.ireturn, 1) := by decide +kernel
def f_X12_blastCount (N : Nat) (R : Nat → Nat → Nat) (σ : SI) (x0 : Nat) : Option (Int32 × SI) := sq (up σ x0 0 (0 : Int32)) (fun σ1 => bd (f_X12_blasts N R σ1 x0) (fun a2 σ2 => some (a2, σ2)))
set_option maxHeartbeats 4000000 in
set_option maxRecDepth 100000 in
theorem ok_X12_blastCount {l : Launch} {g : GL} {R : Nat → Nat → Nat} {L : Nat → Nat → Int64} {N : Nat} {σ : SI} {x0 : Nat} {r : (Int32 × SI)} (h : f_X12_blastCount N R σ x0 = some r) (hSh : ShR R) (hx0 : Ok 194 x0 12) : Ct l g 2 yX12_blastCount cX12_blastCount 1 (some .int) 194 194 0 0 [.ref (gb g + x0)] (mkS σ R L) (PI R L r) := by
  refine Met.ofW (cc := cX12_blastCount) (maxL := 1) (ret := (some .int)) (by decide) rfl ?_
  intro p e s m args below meth c s₁ B hml hv
  obtain ⟨rfl, hE, hLo, hWd⟩ := hv
  have hr : meth.sig.returnType = (some .int) := B.returns
  have C : Cx l g p s m meth c cX12_blastCount 1 RX12 := ⟨B.exec, B.bytes, hml, findClass_of_methodNamed B.named, hE, hLo, B.notSynchronized⟩
  have S : S2 g s σ R L s.heap [] := ⟨hWd, va_S.rf⟩
  have hx := C.1
  have hb := C.2.1
  have hl := lv_entry ([.ref (gb g + x0)]) (n := 1) (Nat.le_of_ble_eq_true rfl)
  rw [lg_entry_eq]
  generalize (lg_sl ([.ref (gb g + x0)]) ++ List.replicate (1 - (lg_sl ([.ref (gb g + x0)])).length) Slot.unset).toArray = ls at hl ⊢
  have hl : lv_has ls 1 [(0, .ref (gb g + x0))] := hl
  generalize hH : s.heap = H at S ⊢
  generalize hlc : ([] : List Loc) = locs at S ⊢
  rw [f_X12_blastCount] at h
  refine lv_aload_n hx hb dX12_blastCount_0 rfl (lv_at hl 0 rfl) ?_
  refine lv_iconst (v := (0 : Int32)) hx hb dX12_blastCount_1 (by decide) ?_
  obtain ⟨σ1, hs1, h⟩ := sq_el h
  refine x_putI C S KX12 hx0 0 (by decide) rfl rfl rfl ⟨rfl, rfl⟩ fl_RX12_3 dX12_blastCount_2 hs1 (fun H locs S => ?_)
  refine lv_aload_n hx hb dX12_blastCount_5 rfl (lv_at hl 0 rfl) ?_
  obtain ⟨a2, σ2, hc2, h⟩ := bd_el h
  refine x_callVI C S KX12 hx0 (ok_X12_blasts (L := L) hc2 hSh hx0) ⟨cd_X12_blasts, ni_RX12, ml_RX12_142, in_X12_blasts, sl_X12_blasts⟩ ⟨by decide, by decide⟩ rfl ⟨by decide, by decide⟩ hl.1 rfl (Nat.le_of_ble_eq_true rfl) ⟨by decide, by decide⟩ dX12_blastCount_6 (fun H locs S => ?_)
  exact x_iret C S hr h dX12_blastCount_9
theorem dX12_neighbourCount_0 : decode cX12_neighbourCount 0 = .ok (.aload_n 0, 1) := by decide +kernel
theorem dX12_neighbourCount_1 : decode cX12_neighbourCount 1 = .ok (.iconst 0, 1) := by decide +kernel
theorem dX12_neighbourCount_2 : decode cX12_neighbourCount 2 = .ok (.putfield 3, 3) := by decide +kernel
theorem dX12_neighbourCount_5 : decode cX12_neighbourCount 5 = .ok (.aload_n 0, 1) := by decide +kernel
theorem dX12_neighbourCount_6 : decode cX12_neighbourCount 6 = .ok (.getfield 88, 3) := by decide +kernel
theorem dX12_neighbourCount_9 : decode cX12_neighbourCount 9 = .ok (.iconst 0, 1) := by decide +kernel
theorem dX12_neighbourCount_10 : decode cX12_neighbourCount 10 = .ok (.iaload, 1) := by decide +kernel
theorem dX12_neighbourCount_11 : decode cX12_neighbourCount 11 = .ok (.ireturn, 1) := by decide +kernel
def f_X12_neighbourCount (N : Nat) (R : Nat → Nat → Nat) (σ : SI) (x0 : Nat) : Option (Int32 × SI) := sq (up σ x0 0 (0 : Int32)) (fun σ1 => ck (0 : Int32) 417 (some (σ1 (R x0 11) (0 : Int32).toNatClampNeg, σ1)))
set_option maxHeartbeats 4000000 in
set_option maxRecDepth 100000 in
theorem ok_X12_neighbourCount {l : Launch} {g : GL} {R : Nat → Nat → Nat} {L : Nat → Nat → Int64} {N : Nat} {σ : SI} {x0 : Nat} {r : (Int32 × SI)} (h : f_X12_neighbourCount N R σ x0 = some r) (hSh : ShR R) (hx0 : Ok 194 x0 12) : Ct l g 1 yX12_neighbourCount cX12_neighbourCount 1 (some .int) 194 194 0 0 [.ref (gb g + x0)] (mkS σ R L) (PI R L r) := by
  refine Met.ofW (cc := cX12_neighbourCount) (maxL := 1) (ret := (some .int)) (by decide) rfl ?_
  intro p e s m args below meth c s₁ B hml hv
  obtain ⟨rfl, hE, hLo, hWd⟩ := hv
  have hr : meth.sig.returnType = (some .int) := B.returns
  have C : Cx l g p s m meth c cX12_neighbourCount 1 RX12 := ⟨B.exec, B.bytes, hml, findClass_of_methodNamed B.named, hE, hLo, B.notSynchronized⟩
  have S : S2 g s σ R L s.heap [] := ⟨hWd, va_S.rf⟩
  have hx := C.1
  have hb := C.2.1
  have hl := lv_entry ([.ref (gb g + x0)]) (n := 1) (Nat.le_of_ble_eq_true rfl)
  rw [lg_entry_eq]
  generalize (lg_sl ([.ref (gb g + x0)]) ++ List.replicate (1 - (lg_sl ([.ref (gb g + x0)])).length) Slot.unset).toArray = ls at hl ⊢
  have hl : lv_has ls 1 [(0, .ref (gb g + x0))] := hl
  generalize hH : s.heap = H at S ⊢
  generalize hlc : ([] : List Loc) = locs at S ⊢
  rw [f_X12_neighbourCount] at h
  refine lv_aload_n hx hb dX12_neighbourCount_0 rfl (lv_at hl 0 rfl) ?_
  refine lv_iconst (v := (0 : Int32)) hx hb dX12_neighbourCount_1 (by decide) ?_
  obtain ⟨σ1, hs1, h⟩ := sq_el h
  refine x_putI C S KX12 hx0 0 (by decide) rfl rfl rfl ⟨rfl, rfl⟩ fl_RX12_3 dX12_neighbourCount_2 hs1 (fun H locs S => ?_)
  refine lv_aload_n hx hb dX12_neighbourCount_5 rfl (lv_at hl 0 rfl) ?_
  have hR2 : Ok 194 (R x0 11) 10417 := hSh x0 12 11 10417 hx0.1 rfl
  refine x_getR C S KX12 hx0 11 (by decide) rfl rfl fl_RX12_88 hR2 dX12_neighbourCount_6 ?_
  refine lv_iconst (v := (0 : Int32)) hx hb dX12_neighbourCount_9 (by decide) ?_
  obtain ⟨hi3, h⟩ := ck_el h
  refine x_iald (len := 417) C S (by decide) hR2 hi3 dX12_neighbourCount_10 ?_
  exact x_iret C S hr h dX12_neighbourCount_11
theorem dX12_roadCount_0 : decode cX12_roadCount 0 = .ok (.aload_n 0, 1) := by decide +kernel
theorem dX12_roadCount_1 : decode cX12_roadCount 1 = .ok (.iconst 0, 1) := by decide +kernel
theorem dX12_roadCount_2 : decode cX12_roadCount 2 = .ok (.putfield 3, 3) := by decide +kernel
theorem dX12_roadCount_5 : decode cX12_roadCount 5 = .ok (.aload_n 0, 1) := by decide +kernel
theorem dX12_roadCount_6 : decode cX12_roadCount 6 = .ok (.getfield 88, 3) := by decide +kernel
theorem dX12_roadCount_9 : decode cX12_roadCount 9 = .ok (.iconst 1, 1) := by decide +kernel
theorem dX12_roadCount_10 : decode cX12_roadCount 10 = .ok (.iaload, 1) := by decide +kernel
theorem dX12_roadCount_11 : decode cX12_roadCount 11 = .ok (.ireturn, 1) := by decide +kernel
def f_X12_roadCount (N : Nat) (R : Nat → Nat → Nat) (σ : SI) (x0 : Nat) : Option (Int32 × SI) := sq (up σ x0 0 (0 : Int32)) (fun σ1 => ck (1 : Int32) 417 (some (σ1 (R x0 11) (1 : Int32).toNatClampNeg, σ1)))
set_option maxHeartbeats 4000000 in
set_option maxRecDepth 100000 in
theorem ok_X12_roadCount {l : Launch} {g : GL} {R : Nat → Nat → Nat} {L : Nat → Nat → Int64} {N : Nat} {σ : SI} {x0 : Nat} {r : (Int32 × SI)} (h : f_X12_roadCount N R σ x0 = some r) (hSh : ShR R) (hx0 : Ok 194 x0 12) : Ct l g 1 yX12_roadCount cX12_roadCount 1 (some .int) 194 194 0 0 [.ref (gb g + x0)] (mkS σ R L) (PI R L r) := by
  refine Met.ofW (cc := cX12_roadCount) (maxL := 1) (ret := (some .int)) (by decide) rfl ?_
  intro p e s m args below meth c s₁ B hml hv
  obtain ⟨rfl, hE, hLo, hWd⟩ := hv
  have hr : meth.sig.returnType = (some .int) := B.returns
  have C : Cx l g p s m meth c cX12_roadCount 1 RX12 := ⟨B.exec, B.bytes, hml, findClass_of_methodNamed B.named, hE, hLo, B.notSynchronized⟩
  have S : S2 g s σ R L s.heap [] := ⟨hWd, va_S.rf⟩
  have hx := C.1
  have hb := C.2.1
  have hl := lv_entry ([.ref (gb g + x0)]) (n := 1) (Nat.le_of_ble_eq_true rfl)
  rw [lg_entry_eq]
  generalize (lg_sl ([.ref (gb g + x0)]) ++ List.replicate (1 - (lg_sl ([.ref (gb g + x0)])).length) Slot.unset).toArray = ls at hl ⊢
  have hl : lv_has ls 1 [(0, .ref (gb g + x0))] := hl
  generalize hH : s.heap = H at S ⊢
  generalize hlc : ([] : List Loc) = locs at S ⊢
  rw [f_X12_roadCount] at h
  refine lv_aload_n hx hb dX12_roadCount_0 rfl (lv_at hl 0 rfl) ?_
  refine lv_iconst (v := (0 : Int32)) hx hb dX12_roadCount_1 (by decide) ?_
  obtain ⟨σ1, hs1, h⟩ := sq_el h
  refine x_putI C S KX12 hx0 0 (by decide) rfl rfl rfl ⟨rfl, rfl⟩ fl_RX12_3 dX12_roadCount_2 hs1 (fun H locs S => ?_)
  refine lv_aload_n hx hb dX12_roadCount_5 rfl (lv_at hl 0 rfl) ?_
  have hR2 : Ok 194 (R x0 11) 10417 := hSh x0 12 11 10417 hx0.1 rfl
  refine x_getR C S KX12 hx0 11 (by decide) rfl rfl fl_RX12_88 hR2 dX12_roadCount_6 ?_
  refine lv_iconst (v := (1 : Int32)) hx hb dX12_roadCount_9 (by decide) ?_
  obtain ⟨hi3, h⟩ := ck_el h
  refine x_iald (len := 417) C S (by decide) hR2 hi3 dX12_roadCount_10 ?_
  exact x_iret C S hr h dX12_roadCount_11
theorem dX12_startCount_0 : decode cX12_startCount 0 = .ok (.aload_n 0, 1) := by decide +kernel
theorem dX12_startCount_1 : decode cX12_startCount 1 = .ok (.iconst 0, 1) := by decide +kernel
theorem dX12_startCount_2 : decode cX12_startCount 2 = .ok (.putfield 3, 3) := by decide +kernel
theorem dX12_startCount_5 : decode cX12_startCount 5 = .ok (.aload_n 0, 1) := by decide +kernel
theorem dX12_startCount_6 : decode cX12_startCount 6 = .ok (.invokevirtual 195, 3) := by decide +kernel
theorem dX12_startCount_9 : decode cX12_startCount 9 = .ok (.ireturn, 1) := by decide +kernel
def f_X12_startCount (N : Nat) (R : Nat → Nat → Nat) (σ : SI) (x0 : Nat) : Option (Int32 × SI) := sq (up σ x0 0 (0 : Int32)) (fun σ1 => bd (f_X12_starts N R σ1 x0) (fun a2 σ2 => some (a2, σ2)))
set_option maxHeartbeats 4000000 in
set_option maxRecDepth 100000 in
theorem ok_X12_startCount {l : Launch} {g : GL} {R : Nat → Nat → Nat} {L : Nat → Nat → Int64} {N : Nat} {σ : SI} {x0 : Nat} {r : (Int32 × SI)} (h : f_X12_startCount N R σ x0 = some r) (hSh : ShR R) (hx0 : Ok 194 x0 12) : Ct l g 2 yX12_startCount cX12_startCount 1 (some .int) 194 194 0 0 [.ref (gb g + x0)] (mkS σ R L) (PI R L r) := by
  refine Met.ofW (cc := cX12_startCount) (maxL := 1) (ret := (some .int)) (by decide) rfl ?_
  intro p e s m args below meth c s₁ B hml hv
  obtain ⟨rfl, hE, hLo, hWd⟩ := hv
  have hr : meth.sig.returnType = (some .int) := B.returns
  have C : Cx l g p s m meth c cX12_startCount 1 RX12 := ⟨B.exec, B.bytes, hml, findClass_of_methodNamed B.named, hE, hLo, B.notSynchronized⟩
  have S : S2 g s σ R L s.heap [] := ⟨hWd, va_S.rf⟩
  have hx := C.1
  have hb := C.2.1
  have hl := lv_entry ([.ref (gb g + x0)]) (n := 1) (Nat.le_of_ble_eq_true rfl)
  rw [lg_entry_eq]
  generalize (lg_sl ([.ref (gb g + x0)]) ++ List.replicate (1 - (lg_sl ([.ref (gb g + x0)])).length) Slot.unset).toArray = ls at hl ⊢
  have hl : lv_has ls 1 [(0, .ref (gb g + x0))] := hl
  generalize hH : s.heap = H at S ⊢
  generalize hlc : ([] : List Loc) = locs at S ⊢
  rw [f_X12_startCount] at h
  refine lv_aload_n hx hb dX12_startCount_0 rfl (lv_at hl 0 rfl) ?_
  refine lv_iconst (v := (0 : Int32)) hx hb dX12_startCount_1 (by decide) ?_
  obtain ⟨σ1, hs1, h⟩ := sq_el h
  refine x_putI C S KX12 hx0 0 (by decide) rfl rfl rfl ⟨rfl, rfl⟩ fl_RX12_3 dX12_startCount_2 hs1 (fun H locs S => ?_)
  refine lv_aload_n hx hb dX12_startCount_5 rfl (lv_at hl 0 rfl) ?_
  obtain ⟨a2, σ2, hc2, h⟩ := bd_el h
  refine x_callVI C S KX12 hx0 (ok_X12_starts (L := L) hc2 hSh hx0) ⟨cd_X12_starts, ni_RX12, ml_RX12_195, in_X12_starts, sl_X12_starts⟩ ⟨by decide, by decide⟩ rfl ⟨by decide, by decide⟩ hl.1 rfl (Nat.le_of_ble_eq_true rfl) ⟨by decide, by decide⟩ dX12_startCount_6 (fun H locs S => ?_)
  exact x_iret C S hr h dX12_startCount_9
theorem dX12_chargeCount_0 : decode cX12_chargeCount 0 = .ok (.aload_n 0, 1) := by decide +kernel
theorem dX12_chargeCount_1 : decode cX12_chargeCount 1 = .ok (.iconst 0, 1) := by decide +kernel
theorem dX12_chargeCount_2 : decode cX12_chargeCount 2 = .ok (.putfield 3, 3) := by decide +kernel
theorem dX12_chargeCount_5 : decode cX12_chargeCount 5 = .ok (.aload_n 0, 1) := by decide +kernel
theorem dX12_chargeCount_6 : decode cX12_chargeCount 6 = .ok (.iload_n 1, 1) := by decide +kernel
theorem dX12_chargeCount_7 : decode cX12_chargeCount 7 = .ok (.invokevirtual 198, 3) := by decide +kernel
theorem dX12_chargeCount_10 : decode cX12_chargeCount 10 = .ok (.ifCond .eq 7, 3) := by decide +kernel
theorem dX12_chargeCount_13 : decode cX12_chargeCount 13 = .ok (.iconst 0, 1) := by decide +kernel
theorem dX12_chargeCount_14 : decode cX12_chargeCount 14 = .ok (.goto 8, 3) := by decide +kernel
theorem dX12_chargeCount_17 : decode cX12_chargeCount 17 = .ok (.aload_n 0, 1) := by decide +kernel
theorem dX12_chargeCount_18 : decode cX12_chargeCount 18 = .ok (.iload_n 1, 1) := by decide +kernel
theorem dX12_chargeCount_19 : decode cX12_chargeCount 19 = .ok (.invokevirtual 202, 3) := by decide +kernel
theorem dX12_chargeCount_22 : decode cX12_chargeCount 22 = .ok (.ireturn, 1) := by decide +kernel
def f_X12_chargeCount (N : Nat) (R : Nat → Nat → Nat) (σ : SI) (x0 : Nat) (x1 : Int32) : Option (Int32 × SI) := sq (up σ x0 0 (0 : Int32)) (fun σ1 => bd (f_X12_noBlast N R σ1 x0 x1) (fun a2 σ2 => if a2 = 0 then (bd (f_X12_charges N R σ2 x0 x1) (fun a4 σ4 => some (a4, σ4))) else (some ((0 : Int32), σ2))))
set_option maxHeartbeats 4000000 in
set_option maxRecDepth 100000 in
theorem ok_X12_chargeCount {l : Launch} {g : GL} {R : Nat → Nat → Nat} {L : Nat → Nat → Int64} {N : Nat} {σ : SI} {x0 : Nat} {x1 : Int32} {r : (Int32 × SI)} (h : f_X12_chargeCount N R σ x0 x1 = some r) (hSh : ShR R) (hx0 : Ok 194 x0 12) : Ct l g 3 yX12_chargeCount cX12_chargeCount 2 (some .int) 194 194 0 0 [.ref (gb g + x0), .int x1] (mkS σ R L) (PI R L r) := by
  refine Met.ofW (cc := cX12_chargeCount) (maxL := 2) (ret := (some .int)) (by decide) rfl ?_
  intro p e s m args below meth c s₁ B hml hv
  obtain ⟨rfl, hE, hLo, hWd⟩ := hv
  have hr : meth.sig.returnType = (some .int) := B.returns
  have C : Cx l g p s m meth c cX12_chargeCount 2 RX12 := ⟨B.exec, B.bytes, hml, findClass_of_methodNamed B.named, hE, hLo, B.notSynchronized⟩
  have S : S2 g s σ R L s.heap [] := ⟨hWd, va_S.rf⟩
  have hx := C.1
  have hb := C.2.1
  have hl := lv_entry ([.ref (gb g + x0), .int x1]) (n := 2) (Nat.le_of_ble_eq_true rfl)
  rw [lg_entry_eq]
  generalize (lg_sl ([.ref (gb g + x0), .int x1]) ++ List.replicate (2 - (lg_sl ([.ref (gb g + x0), .int x1])).length) Slot.unset).toArray = ls at hl ⊢
  have hl : lv_has ls 2 [(0, .ref (gb g + x0)), (1, .int x1)] := hl
  generalize hH : s.heap = H at S ⊢
  generalize hlc : ([] : List Loc) = locs at S ⊢
  rw [f_X12_chargeCount] at h
  refine lv_aload_n hx hb dX12_chargeCount_0 rfl (lv_at hl 0 rfl) ?_
  refine lv_iconst (v := (0 : Int32)) hx hb dX12_chargeCount_1 (by decide) ?_
  obtain ⟨σ1, hs1, h⟩ := sq_el h
  refine x_putI C S KX12 hx0 0 (by decide) rfl rfl rfl ⟨rfl, rfl⟩ fl_RX12_3 dX12_chargeCount_2 hs1 (fun H locs S => ?_)
  refine lv_aload_n hx hb dX12_chargeCount_5 rfl (lv_at hl 0 rfl) ?_
  refine lv_iload_n hx hb dX12_chargeCount_6 rfl (lv_at hl 1 rfl) ?_
  obtain ⟨a2, σ2, hc2, h⟩ := bd_el h
  refine x_callVI C S KX12 hx0 (ok_X12_noBlast (L := L) hc2 hSh hx0) ⟨cd_X12_noBlast, ni_RX12, ml_RX12_198, in_X12_noBlast, sl_X12_noBlast⟩ ⟨by decide, by decide⟩ rfl ⟨by decide, by decide⟩ hl.1 rfl (Nat.le_of_ble_eq_true rfl) ⟨by decide, by decide⟩ dX12_chargeCount_7 (fun H locs S => ?_)
  refine lv_if_eq (tgt := 17) hx hb dX12_chargeCount_10 (by decide) (fun c3 => ?_) (fun c3 => ?_)
  · have h := it_p c3 h
    refine lv_aload_n hx hb dX12_chargeCount_17 rfl (lv_at hl 0 rfl) ?_
    refine lv_iload_n hx hb dX12_chargeCount_18 rfl (lv_at hl 1 rfl) ?_
    obtain ⟨a4, σ4, hc4, h⟩ := bd_el h
    refine x_callVI C S KX12 hx0 (ok_X12_charges (L := L) hc4 hSh hx0) ⟨cd_X12_charges, ni_RX12, ml_RX12_202, in_X12_charges, sl_X12_charges⟩ ⟨by decide, by decide⟩ rfl ⟨by decide, by decide⟩ hl.1 rfl (Nat.le_of_ble_eq_true rfl) ⟨by decide, by decide⟩ dX12_chargeCount_19 (fun H locs S => ?_)
    exact x_iret C S hr h dX12_chargeCount_22
  · have h := it_n c3 h
    refine lv_iconst (v := (0 : Int32)) hx hb dX12_chargeCount_13 (by decide) ?_
    refine lv_goto (tgt := 22) hx hb dX12_chargeCount_14 (by decide) ?_
    exact x_iret C S hr h dX12_chargeCount_22
theorem dX12_chargeSize_0 : decode cX12_chargeSize 0 = .ok (.aload_n 0, 1) := by decide +kernel
theorem dX12_chargeSize_1 : decode cX12_chargeSize 1 = .ok (.iconst 0, 1) := by decide +kernel
theorem dX12_chargeSize_2 : decode cX12_chargeSize 2 = .ok (.putfield 3, 3) := by decide +kernel
theorem dX12_chargeSize_5 : decode cX12_chargeSize 5 = .ok (.aload_n 0, 1) := by decide +kernel
theorem dX12_chargeSize_6 : decode cX12_chargeSize 6 = .ok (.iload_n 1, 1) := by decide +kernel
theorem dX12_chargeSize_7 : decode cX12_chargeSize 7 = .ok (.invokevirtual 198, 3) := by decide +kernel
theorem dX12_chargeSize_10 : decode cX12_chargeSize 10 = .ok (.ifCond .ne 12, 3) := by decide +kernel
theorem dX12_chargeSize_13 : decode cX12_chargeSize 13 = .ok (.aload_n 0, 1) := by decide +kernel
theorem dX12_chargeSize_14 : decode cX12_chargeSize 14 = .ok (.iload_n 1, 1) := by decide +kernel
theorem dX12_chargeSize_15 : decode cX12_chargeSize 15 = .ok (.iload_n 2, 1) := by decide +kernel
theorem dX12_chargeSize_16 : decode cX12_chargeSize 16 = .ok (.invokevirtual 206, 3) := by decide +kernel
theorem dX12_chargeSize_19 : decode cX12_chargeSize 19 = .ok (.ifCond .eq 7, 3) := by decide +kernel
theorem dX12_chargeSize_22 : decode cX12_chargeSize 22 = .ok (.iconst 0, 1) := by decide +kernel
theorem dX12_chargeSize_23 : decode cX12_chargeSize 23 = .ok (.goto 9, 3) := by decide +kernel
theorem dX12_chargeSize_26 : decode cX12_chargeSize 26 = .ok (.aload_n 0, 1) := by decide +kernel
theorem dX12_chargeSize_27 : decode cX12_chargeSize 27 = .ok (.iload_n 1, 1) := by decide +kernel
theorem dX12_chargeSize_28 : decode cX12_chargeSize 28 = .ok (.iload_n 2, 1) := by decide +kernel
theorem dX12_chargeSize_29 : decode cX12_chargeSize 29 = .ok (.invokevirtual 209, 3) := by decide +kernel
theorem dX12_chargeSize_32 : decode cX12_chargeSize 32 = .ok (.ireturn, 1) := by decide +kernel
def f_X12_chargeSize_22 (N : Nat) (R : Nat → Nat → Nat) (σ : SI) : Option (Int32 × SI) := some ((0 : Int32), σ)
def f_X12_chargeSize (N : Nat) (R : Nat → Nat → Nat) (σ : SI) (x0 : Nat) (x1 : Int32) (x2 : Int32) : Option (Int32 × SI) := sq (up σ x0 0 (0 : Int32)) (fun σ1 => bd (f_X12_noBlast N R σ1 x0 x1) (fun a2 σ2 => if a2 = 0 then (bd (f_X12_noCharge N R σ2 x0 x1 x2) (fun a4 σ4 => if a4 = 0 then (bd (f_X12_chargeOf N R σ4 x0 x1 x2) (fun a6 σ6 => some (a6, σ6))) else (f_X12_chargeSize_22 N R σ4))) else (f_X12_chargeSize_22 N R σ2)))
set_option maxHeartbeats 4000000 in
set_option maxRecDepth 100000 in
theorem w_X12_chargeSize_22 {l : Launch} {g : GL} {p : Program} {e : Jvm.Env} {s : State} {m : MethodId} {args : Array Value} {below : List Frame} {meth : Method} {c : Code} {R : Nat → Nat → Nat} {L : Nat → Nat → Int64} {r : (Int32 × SI)} {N : Nat} (C : Cx l g p s m meth c cX12_chargeSize 3 RX12) (hr : meth.sig.returnType = (some .int)) (hSh : ShR R) : ∀ (σ : SI), f_X12_chargeSize_22 N R σ = some r → ∀ (H : Heap) (locs : List Loc) (ls : Array Slot), S2 g s σ R L H locs → lv_has ls 3 [] → W p l e (rmd 3 0 0) s m args below meth c H locs 0 0 (MQ below (Qg g 194 (PI R L r)) args s 0 0 (gA g)) (F0 m 22 ls []) := by
  have hx := C.1
  have hb := C.2.1
  intro σ h H locs ls S hl
  rw [f_X12_chargeSize_22] at h
  refine lv_iconst (v := (0 : Int32)) hx hb dX12_chargeSize_22 (by decide) ?_
  refine lv_goto (tgt := 32) hx hb dX12_chargeSize_23 (by decide) ?_
  exact x_iret C S hr h dX12_chargeSize_32
set_option maxHeartbeats 4000000 in
set_option maxRecDepth 100000 in
theorem ok_X12_chargeSize {l : Launch} {g : GL} {R : Nat → Nat → Nat} {L : Nat → Nat → Int64} {N : Nat} {σ : SI} {x0 : Nat} {x1 : Int32} {x2 : Int32} {r : (Int32 × SI)} (h : f_X12_chargeSize N R σ x0 x1 x2 = some r) (hSh : ShR R) (hx0 : Ok 194 x0 12) : Ct l g 3 yX12_chargeSize cX12_chargeSize 3 (some .int) 194 194 0 0 [.ref (gb g + x0), .int x1, .int x2] (mkS σ R L) (PI R L r) := by
  refine Met.ofW (cc := cX12_chargeSize) (maxL := 3) (ret := (some .int)) (by decide) rfl ?_
  intro p e s m args below meth c s₁ B hml hv
  obtain ⟨rfl, hE, hLo, hWd⟩ := hv
  have hr : meth.sig.returnType = (some .int) := B.returns
  have C : Cx l g p s m meth c cX12_chargeSize 3 RX12 := ⟨B.exec, B.bytes, hml, findClass_of_methodNamed B.named, hE, hLo, B.notSynchronized⟩
  have S : S2 g s σ R L s.heap [] := ⟨hWd, va_S.rf⟩
  have hx := C.1
  have hb := C.2.1
  have hl := lv_entry ([.ref (gb g + x0), .int x1, .int x2]) (n := 3) (Nat.le_of_ble_eq_true rfl)
  rw [lg_entry_eq]
  generalize (lg_sl ([.ref (gb g + x0), .int x1, .int x2]) ++ List.replicate (3 - (lg_sl ([.ref (gb g + x0), .int x1, .int x2])).length) Slot.unset).toArray = ls at hl ⊢
  have hl : lv_has ls 3 [(0, .ref (gb g + x0)), (1, .int x1), (2, .int x2)] := hl
  generalize hH : s.heap = H at S ⊢
  generalize hlc : ([] : List Loc) = locs at S ⊢
  rw [f_X12_chargeSize] at h
  refine lv_aload_n hx hb dX12_chargeSize_0 rfl (lv_at hl 0 rfl) ?_
  refine lv_iconst (v := (0 : Int32)) hx hb dX12_chargeSize_1 (by decide) ?_
  obtain ⟨σ1, hs1, h⟩ := sq_el h
  refine x_putI C S KX12 hx0 0 (by decide) rfl rfl rfl ⟨rfl, rfl⟩ fl_RX12_3 dX12_chargeSize_2 hs1 (fun H locs S => ?_)
  refine lv_aload_n hx hb dX12_chargeSize_5 rfl (lv_at hl 0 rfl) ?_
  refine lv_iload_n hx hb dX12_chargeSize_6 rfl (lv_at hl 1 rfl) ?_
  obtain ⟨a2, σ2, hc2, h⟩ := bd_el h
  refine x_callVI C S KX12 hx0 (ok_X12_noBlast (L := L) hc2 hSh hx0) ⟨cd_X12_noBlast, ni_RX12, ml_RX12_198, in_X12_noBlast, sl_X12_noBlast⟩ ⟨by decide, by decide⟩ rfl ⟨by decide, by decide⟩ hl.1 rfl (Nat.le_of_ble_eq_true rfl) ⟨by decide, by decide⟩ dX12_chargeSize_7 (fun H locs S => ?_)
  refine lv_if_ne (tgt := 22) hx hb dX12_chargeSize_10 (by decide) (fun c3 => ?_) (fun c3 => ?_)
  · have h := it_n c3 h
    exact w_X12_chargeSize_22 C hr hSh σ2 h H locs ls S (lv_sub hl [] rfl)
  · have h := it_p c3 h
    refine lv_aload_n hx hb dX12_chargeSize_13 rfl (lv_at hl 0 rfl) ?_
    refine lv_iload_n hx hb dX12_chargeSize_14 rfl (lv_at hl 1 rfl) ?_
    refine lv_iload_n hx hb dX12_chargeSize_15 rfl (lv_at hl 2 rfl) ?_
    obtain ⟨a4, σ4, hc4, h⟩ := bd_el h
    refine x_callVI C S KX12 hx0 (ok_X12_noCharge (L := L) hc4 hSh hx0) ⟨cd_X12_noCharge, ni_RX12, ml_RX12_206, in_X12_noCharge, sl_X12_noCharge⟩ ⟨by decide, by decide⟩ rfl ⟨by decide, by decide⟩ hl.1 rfl (Nat.le_of_ble_eq_true rfl) ⟨by decide, by decide⟩ dX12_chargeSize_16 (fun H locs S => ?_)
    refine lv_if_eq (tgt := 26) hx hb dX12_chargeSize_19 (by decide) (fun c5 => ?_) (fun c5 => ?_)
    · have h := it_p c5 h
      refine lv_aload_n hx hb dX12_chargeSize_26 rfl (lv_at hl 0 rfl) ?_
      refine lv_iload_n hx hb dX12_chargeSize_27 rfl (lv_at hl 1 rfl) ?_
      refine lv_iload_n hx hb dX12_chargeSize_28 rfl (lv_at hl 2 rfl) ?_
      obtain ⟨a6, σ6, hc6, h⟩ := bd_el h
      refine x_callVI C S KX12 hx0 (ok_X12_chargeOf (L := L) hc6 hSh hx0) ⟨cd_X12_chargeOf, ni_RX12, ml_RX12_209, in_X12_chargeOf, sl_X12_chargeOf⟩ ⟨by decide, by decide⟩ rfl ⟨by decide, by decide⟩ hl.1 rfl (Nat.le_of_ble_eq_true rfl) ⟨by decide, by decide⟩ dX12_chargeSize_29 (fun H locs S => ?_)
      exact x_iret C S hr h dX12_chargeSize_32
    · have h := it_n c5 h
      exact w_X12_chargeSize_22 C hr hSh σ4 h H locs ls S (lv_sub hl [] rfl)
theorem dX12_delay_0 : decode cX12_delay 0 = .ok (.aload_n 0, 1) := by decide +kernel
theorem dX12_delay_1 : decode cX12_delay 1 = .ok (.iconst 0, 1) := by decide +kernel
theorem dX12_delay_2 : decode cX12_delay 2 = .ok (.putfield 3, 3) := by decide +kernel
theorem dX12_delay_5 : decode cX12_delay 5 = .ok (.aload_n 0, 1) := by decide +kernel
theorem dX12_delay_6 : decode cX12_delay 6 = .ok (.iload_n 1, 1) := by decide +kernel
theorem dX12_delay_7 : decode cX12_delay 7 = .ok (.invokevirtual 198, 3) := by decide +kernel
theorem dX12_delay_10 : decode cX12_delay 10 = .ok (.ifCond .ne 12, 3) := by decide +kernel
theorem dX12_delay_13 : decode cX12_delay 13 = .ok (.aload_n 0, 1) := by decide +kernel
theorem dX12_delay_14 : decode cX12_delay 14 = .ok (.iload_n 1, 1) := by decide +kernel
theorem dX12_delay_15 : decode cX12_delay 15 = .ok (.iload_n 2, 1) := by decide +kernel
theorem dX12_delay_16 : decode cX12_delay 16 = .ok (.invokevirtual 206, 3) := by decide +kernel
theorem dX12_delay_19 : decode cX12_delay 19 = .ok (.ifCond .eq 7, 3) := by decide +kernel
theorem dX12_delay_22 : decode cX12_delay 22 = .ok (.iconst 0, 1) := by decide +kernel
theorem dX12_delay_23 : decode cX12_delay 23 = .ok (.goto 9, 3) := by decide +kernel
theorem dX12_delay_26 : decode cX12_delay 26 = .ok (.aload_n 0, 1) := by decide +kernel
theorem dX12_delay_27 : decode cX12_delay 27 = .ok (.iload_n 1, 1) := by decide +kernel
theorem dX12_delay_28 : decode cX12_delay 28 = .ok (.iload_n 2, 1) := by decide +kernel
theorem dX12_delay_29 : decode cX12_delay 29 = .ok (.invokevirtual 212, 3) := by decide +kernel
theorem dX12_delay_32 : decode cX12_delay 32 = .ok (.ireturn, 1) := by decide +kernel
def f_X12_delay_22 (N : Nat) (R : Nat → Nat → Nat) (σ : SI) : Option (Int32 × SI) := some ((0 : Int32), σ)
def f_X12_delay (N : Nat) (R : Nat → Nat → Nat) (σ : SI) (x0 : Nat) (x1 : Int32) (x2 : Int32) : Option (Int32 × SI) := sq (up σ x0 0 (0 : Int32)) (fun σ1 => bd (f_X12_noBlast N R σ1 x0 x1) (fun a2 σ2 => if a2 = 0 then (bd (f_X12_noCharge N R σ2 x0 x1 x2) (fun a4 σ4 => if a4 = 0 then (bd (f_X12_delayOf N R σ4 x0 x1 x2) (fun a6 σ6 => some (a6, σ6))) else (f_X12_delay_22 N R σ4))) else (f_X12_delay_22 N R σ2)))
set_option maxHeartbeats 4000000 in
set_option maxRecDepth 100000 in
theorem w_X12_delay_22 {l : Launch} {g : GL} {p : Program} {e : Jvm.Env} {s : State} {m : MethodId} {args : Array Value} {below : List Frame} {meth : Method} {c : Code} {R : Nat → Nat → Nat} {L : Nat → Nat → Int64} {r : (Int32 × SI)} {N : Nat} (C : Cx l g p s m meth c cX12_delay 3 RX12) (hr : meth.sig.returnType = (some .int)) (hSh : ShR R) : ∀ (σ : SI), f_X12_delay_22 N R σ = some r → ∀ (H : Heap) (locs : List Loc) (ls : Array Slot), S2 g s σ R L H locs → lv_has ls 3 [] → W p l e (rmd 3 0 0) s m args below meth c H locs 0 0 (MQ below (Qg g 194 (PI R L r)) args s 0 0 (gA g)) (F0 m 22 ls []) := by
  have hx := C.1
  have hb := C.2.1
  intro σ h H locs ls S hl
  rw [f_X12_delay_22] at h
  refine lv_iconst (v := (0 : Int32)) hx hb dX12_delay_22 (by decide) ?_
  refine lv_goto (tgt := 32) hx hb dX12_delay_23 (by decide) ?_
  exact x_iret C S hr h dX12_delay_32
set_option maxHeartbeats 4000000 in
set_option maxRecDepth 100000 in
theorem ok_X12_delay {l : Launch} {g : GL} {R : Nat → Nat → Nat} {L : Nat → Nat → Int64} {N : Nat} {σ : SI} {x0 : Nat} {x1 : Int32} {x2 : Int32} {r : (Int32 × SI)} (h : f_X12_delay N R σ x0 x1 x2 = some r) (hSh : ShR R) (hx0 : Ok 194 x0 12) : Ct l g 3 yX12_delay cX12_delay 3 (some .int) 194 194 0 0 [.ref (gb g + x0), .int x1, .int x2] (mkS σ R L) (PI R L r) := by
  refine Met.ofW (cc := cX12_delay) (maxL := 3) (ret := (some .int)) (by decide) rfl ?_
  intro p e s m args below meth c s₁ B hml hv
  obtain ⟨rfl, hE, hLo, hWd⟩ := hv
  have hr : meth.sig.returnType = (some .int) := B.returns
  have C : Cx l g p s m meth c cX12_delay 3 RX12 := ⟨B.exec, B.bytes, hml, findClass_of_methodNamed B.named, hE, hLo, B.notSynchronized⟩
  have S : S2 g s σ R L s.heap [] := ⟨hWd, va_S.rf⟩
  have hx := C.1
  have hb := C.2.1
  have hl := lv_entry ([.ref (gb g + x0), .int x1, .int x2]) (n := 3) (Nat.le_of_ble_eq_true rfl)
  rw [lg_entry_eq]
  generalize (lg_sl ([.ref (gb g + x0), .int x1, .int x2]) ++ List.replicate (3 - (lg_sl ([.ref (gb g + x0), .int x1, .int x2])).length) Slot.unset).toArray = ls at hl ⊢
  have hl : lv_has ls 3 [(0, .ref (gb g + x0)), (1, .int x1), (2, .int x2)] := hl
  generalize hH : s.heap = H at S ⊢
  generalize hlc : ([] : List Loc) = locs at S ⊢
  rw [f_X12_delay] at h
  refine lv_aload_n hx hb dX12_delay_0 rfl (lv_at hl 0 rfl) ?_
  refine lv_iconst (v := (0 : Int32)) hx hb dX12_delay_1 (by decide) ?_
  obtain ⟨σ1, hs1, h⟩ := sq_el h
  refine x_putI C S KX12 hx0 0 (by decide) rfl rfl rfl ⟨rfl, rfl⟩ fl_RX12_3 dX12_delay_2 hs1 (fun H locs S => ?_)
  refine lv_aload_n hx hb dX12_delay_5 rfl (lv_at hl 0 rfl) ?_
  refine lv_iload_n hx hb dX12_delay_6 rfl (lv_at hl 1 rfl) ?_
  obtain ⟨a2, σ2, hc2, h⟩ := bd_el h
  refine x_callVI C S KX12 hx0 (ok_X12_noBlast (L := L) hc2 hSh hx0) ⟨cd_X12_noBlast, ni_RX12, ml_RX12_198, in_X12_noBlast, sl_X12_noBlast⟩ ⟨by decide, by decide⟩ rfl ⟨by decide, by decide⟩ hl.1 rfl (Nat.le_of_ble_eq_true rfl) ⟨by decide, by decide⟩ dX12_delay_7 (fun H locs S => ?_)
  refine lv_if_ne (tgt := 22) hx hb dX12_delay_10 (by decide) (fun c3 => ?_) (fun c3 => ?_)
  · have h := it_n c3 h
    exact w_X12_delay_22 C hr hSh σ2 h H locs ls S (lv_sub hl [] rfl)
  · have h := it_p c3 h
    refine lv_aload_n hx hb dX12_delay_13 rfl (lv_at hl 0 rfl) ?_
    refine lv_iload_n hx hb dX12_delay_14 rfl (lv_at hl 1 rfl) ?_
    refine lv_iload_n hx hb dX12_delay_15 rfl (lv_at hl 2 rfl) ?_
    obtain ⟨a4, σ4, hc4, h⟩ := bd_el h
    refine x_callVI C S KX12 hx0 (ok_X12_noCharge (L := L) hc4 hSh hx0) ⟨cd_X12_noCharge, ni_RX12, ml_RX12_206, in_X12_noCharge, sl_X12_noCharge⟩ ⟨by decide, by decide⟩ rfl ⟨by decide, by decide⟩ hl.1 rfl (Nat.le_of_ble_eq_true rfl) ⟨by decide, by decide⟩ dX12_delay_16 (fun H locs S => ?_)
    refine lv_if_eq (tgt := 26) hx hb dX12_delay_19 (by decide) (fun c5 => ?_) (fun c5 => ?_)
    · have h := it_p c5 h
      refine lv_aload_n hx hb dX12_delay_26 rfl (lv_at hl 0 rfl) ?_
      refine lv_iload_n hx hb dX12_delay_27 rfl (lv_at hl 1 rfl) ?_
      refine lv_iload_n hx hb dX12_delay_28 rfl (lv_at hl 2 rfl) ?_
      obtain ⟨a6, σ6, hc6, h⟩ := bd_el h
      refine x_callVI C S KX12 hx0 (ok_X12_delayOf (L := L) hc6 hSh hx0) ⟨cd_X12_delayOf, ni_RX12, ml_RX12_212, in_X12_delayOf, sl_X12_delayOf⟩ ⟨by decide, by decide⟩ rfl ⟨by decide, by decide⟩ hl.1 rfl (Nat.le_of_ble_eq_true rfl) ⟨by decide, by decide⟩ dX12_delay_29 (fun H locs S => ?_)
      exact x_iret C S hr h dX12_delay_32
    · have h := it_n c5 h
      exact w_X12_delay_22 C hr hSh σ4 h H locs ls S (lv_sub hl [] rfl)
theorem dX12_totalSize_0 : decode cX12_totalSize 0 = .ok (.aload_n 0, 1) := by decide +kernel
theorem dX12_totalSize_1 : decode cX12_totalSize 1 = .ok (.iconst 0, 1) := by decide +kernel
theorem dX12_totalSize_2 : decode cX12_totalSize 2 = .ok (.putfield 3, 3) := by decide +kernel
theorem dX12_totalSize_5 : decode cX12_totalSize 5 = .ok (.aload_n 0, 1) := by decide +kernel
theorem dX12_totalSize_6 : decode cX12_totalSize 6 = .ok (.iload_n 1, 1) := by decide +kernel
theorem dX12_totalSize_7 : decode cX12_totalSize 7 = .ok (.invokevirtual 198, 3) := by decide +kernel
theorem dX12_totalSize_10 : decode cX12_totalSize 10 = .ok (.ifCond .eq 5, 3) := by decide +kernel
theorem dX12_totalSize_13 : decode cX12_totalSize 13 = .ok (.iconst 0, 1) := by decide +kernel
theorem dX12_totalSize_14 : decode cX12_totalSize 14 = .ok (.ireturn, 1) := by decide +kernel
theorem dX12_totalSize_15 : decode cX12_totalSize 15 = .ok (.iconst 0, 1) := by decide +kernel
theorem dX12_totalSize_16 : decode cX12_totalSize 16 = .ok (.istore_n 2, 1) := by decide +kernel
theorem dX12_totalSize_17 : decode cX12_totalSize 17 = .ok (.iconst 0, 1) := by decide +kernel
theorem dX12_totalSize_18 : decode cX12_totalSize 18 = .ok (.istore_n 3, 1) := by decide +kernel
theorem dX12_totalSize_19 : decode cX12_totalSize 19 = .ok (.iload_n 3, 1) := by decide +kernel
theorem dX12_totalSize_20 : decode cX12_totalSize 20 = .ok (.aload_n 0, 1) := by decide +kernel
theorem dX12_totalSize_21 : decode cX12_totalSize 21 = .ok (.iload_n 1, 1) := by decide +kernel
theorem dX12_totalSize_22 : decode cX12_totalSize 22 = .ok (.invokevirtual 202, 3) := by decide +kernel
theorem dX12_totalSize_25 : decode cX12_totalSize 25 = .ok (.if_icmp .ge 18, 3) := by decide +kernel
theorem dX12_totalSize_28 : decode cX12_totalSize 28 = .ok (.iload_n 2, 1) := by decide +kernel
theorem dX12_totalSize_29 : decode cX12_totalSize 29 = .ok (.aload_n 0, 1) := by decide +kernel
theorem dX12_totalSize_30 : decode cX12_totalSize 30 = .ok (.iload_n 1, 1) := by decide +kernel
theorem dX12_totalSize_31 : decode cX12_totalSize 31 = .ok (.iload_n 3, 1) := by decide +kernel
theorem dX12_totalSize_32 : decode cX12_totalSize 32 = .ok (.invokevirtual 209, 3) := by decide +kernel
theorem dX12_totalSize_35 : decode cX12_totalSize 35 = .ok (.iadd, 1) := by decide +kernel
theorem dX12_totalSize_36 : decode cX12_totalSize 36 = .ok (.istore_n 2, 1) := by decide +kernel
theorem dX12_totalSize_37 : decode cX12_totalSize 37 = .ok (.iinc 3 1, 3) := by decide +kernel
theorem dX12_totalSize_40 : decode cX12_totalSize 40 = .ok (.goto (-21), 3) := by decide +kernel
theorem dX12_totalSize_43 : decode cX12_totalSize 43 = .ok (.iload_n 2, 1) := by decide +kernel
theorem dX12_totalSize_44 : decode cX12_totalSize 44 = .ok (.ireturn, 1) := by decide +kernel
def f_X12_totalSize_19 (N : Nat) (R : Nat → Nat → Nat) : Nat → SI → Nat → Int32 → Int32 → Int32 → Option (Int32 × SI)
  | 0, _, _, _, _, _ => none
  | n + 1, σ, x0, x1, x2, x3 => bd (f_X12_charges N R σ x0 x1) (fun a4 σ4 => if a4 ≤ x3 then (some (x2, σ4)) else (bd (f_X12_chargeOf N R σ4 x0 x1 x3) (fun a6 σ6 => f_X12_totalSize_19 N R n σ6 x0 x1 (x2 + a6) (x3 + 1))))
def f_X12_totalSize (N : Nat) (R : Nat → Nat → Nat) (σ : SI) (x0 : Nat) (x1 : Int32) : Option (Int32 × SI) := sq (up σ x0 0 (0 : Int32)) (fun σ1 => bd (f_X12_noBlast N R σ1 x0 x1) (fun a2 σ2 => if a2 = 0 then (f_X12_totalSize_19 N R N σ2 x0 x1 (0 : Int32) (0 : Int32)) else (some ((0 : Int32), σ2))))
set_option maxHeartbeats 4000000 in
set_option maxRecDepth 100000 in
theorem w_X12_totalSize_19 {l : Launch} {g : GL} {p : Program} {e : Jvm.Env} {s : State} {m : MethodId} {args : Array Value} {below : List Frame} {meth : Method} {c : Code} {R : Nat → Nat → Nat} {L : Nat → Nat → Int64} {r : (Int32 × SI)} {N : Nat} (C : Cx l g p s m meth c cX12_totalSize 4 RX12) (hr : meth.sig.returnType = (some .int)) (hSh : ShR R) : ∀ (n : Nat) (σ : SI) (x0 : Nat) (x1 : Int32) (x2 : Int32) (x3 : Int32), f_X12_totalSize_19 N R n σ x0 x1 x2 x3 = some r → Ok 194 x0 12 → ∀ (H : Heap) (locs : List Loc) (ls : Array Slot), S2 g s σ R L H locs → lv_has ls 4 [(0, .ref (gb g + x0)), (1, .int x1), (2, .int x2), (3, .int x3)] → W p l e (rmd 3 0 0) s m args below meth c H locs 0 0 (MQ below (Qg g 194 (PI R L r)) args s 0 0 (gA g)) (F0 m 19 ls []) := by
  have hx := C.1
  have hb := C.2.1
  intro n
  induction n with
  | zero =>
    intro σ x0 x1 x2 x3 h
    cases (show (none : Option (Int32 × SI)) = some r from h)
  | succ n ih =>
    intro σ x0 x1 x2 x3 h hx0 H locs ls S hl
    rw [f_X12_totalSize_19] at h
    refine lv_iload_n hx hb dX12_totalSize_19 rfl (lv_at hl 3 rfl) ?_
    refine lv_aload_n hx hb dX12_totalSize_20 rfl (lv_at hl 0 rfl) ?_
    refine lv_iload_n hx hb dX12_totalSize_21 rfl (lv_at hl 1 rfl) ?_
    obtain ⟨a4, σ4, hc4, h⟩ := bd_el h
    refine x_callVI C S KX12 hx0 (ok_X12_charges (L := L) hc4 hSh hx0) ⟨cd_X12_charges, ni_RX12, ml_RX12_202, in_X12_charges, sl_X12_charges⟩ ⟨by decide, by decide⟩ rfl ⟨by decide, by decide⟩ hl.1 rfl (Nat.le_of_ble_eq_true rfl) ⟨by decide, by decide⟩ dX12_totalSize_22 (fun H locs S => ?_)
    refine lv_icmp_ge (tgt := 43) hx hb dX12_totalSize_25 (by decide) (fun c5 => ?_) (fun c5 => ?_)
    · have h := it_p c5 h
      refine lv_iload_n hx hb dX12_totalSize_43 rfl (lv_at hl 2 rfl) ?_
      exact x_iret C S hr h dX12_totalSize_44
    · have h := it_n c5 h
      refine lv_iload_n hx hb dX12_totalSize_28 rfl (lv_at hl 2 rfl) ?_
      refine lv_aload_n hx hb dX12_totalSize_29 rfl (lv_at hl 0 rfl) ?_
      refine lv_iload_n hx hb dX12_totalSize_30 rfl (lv_at hl 1 rfl) ?_
      refine lv_iload_n hx hb dX12_totalSize_31 rfl (lv_at hl 3 rfl) ?_
      obtain ⟨a6, σ6, hc6, h⟩ := bd_el h
      refine x_callVI C S KX12 hx0 (ok_X12_chargeOf (L := L) hc6 hSh hx0) ⟨cd_X12_chargeOf, ni_RX12, ml_RX12_209, in_X12_chargeOf, sl_X12_chargeOf⟩ ⟨by decide, by decide⟩ rfl ⟨by decide, by decide⟩ hl.1 rfl (Nat.le_of_ble_eq_true rfl) ⟨by decide, by decide⟩ dX12_totalSize_32 (fun H locs S => ?_)
      refine lv_iadd hx hb dX12_totalSize_35 ?_
      refine lv_istore_n (lv' := [(2, .int (x2 + a6)), (0, .ref (gb g + x0)), (1, .int x1), (3, .int x3)]) hx hb dX12_totalSize_36 rfl hl (by decide) rfl (fun ls hl => ?_)
      refine lv_iinc (v := x3 + 1) (lv' := [(3, .int (x3 + 1)), (2, .int (x2 + a6)), (0, .ref (gb g + x0)), (1, .int x1)]) hx hb dX12_totalSize_37 hl (k := 3) rfl rfl (by decide) rfl (fun ls hl => ?_)
      refine lv_goto (tgt := 19) hx hb dX12_totalSize_40 (by decide) ?_
      exact ih σ6 x0 x1 (x2 + a6) (x3 + 1) h hx0 H locs ls S (lv_sub hl [2, 3, 1, 0] rfl)
set_option maxHeartbeats 4000000 in
set_option maxRecDepth 100000 in
theorem ok_X12_totalSize {l : Launch} {g : GL} {R : Nat → Nat → Nat} {L : Nat → Nat → Int64} {N : Nat} {σ : SI} {x0 : Nat} {x1 : Int32} {r : (Int32 × SI)} (h : f_X12_totalSize N R σ x0 x1 = some r) (hSh : ShR R) (hx0 : Ok 194 x0 12) : Ct l g 3 yX12_totalSize cX12_totalSize 4 (some .int) 194 194 0 0 [.ref (gb g + x0), .int x1] (mkS σ R L) (PI R L r) := by
  refine Met.ofW (cc := cX12_totalSize) (maxL := 4) (ret := (some .int)) (by decide) rfl ?_
  intro p e s m args below meth c s₁ B hml hv
  obtain ⟨rfl, hE, hLo, hWd⟩ := hv
  have hr : meth.sig.returnType = (some .int) := B.returns
  have C : Cx l g p s m meth c cX12_totalSize 4 RX12 := ⟨B.exec, B.bytes, hml, findClass_of_methodNamed B.named, hE, hLo, B.notSynchronized⟩
  have S : S2 g s σ R L s.heap [] := ⟨hWd, va_S.rf⟩
  have hx := C.1
  have hb := C.2.1
  have hl := lv_entry ([.ref (gb g + x0), .int x1]) (n := 4) (Nat.le_of_ble_eq_true rfl)
  rw [lg_entry_eq]
  generalize (lg_sl ([.ref (gb g + x0), .int x1]) ++ List.replicate (4 - (lg_sl ([.ref (gb g + x0), .int x1])).length) Slot.unset).toArray = ls at hl ⊢
  have hl : lv_has ls 4 [(0, .ref (gb g + x0)), (1, .int x1)] := hl
  generalize hH : s.heap = H at S ⊢
  generalize hlc : ([] : List Loc) = locs at S ⊢
  rw [f_X12_totalSize] at h
  refine lv_aload_n hx hb dX12_totalSize_0 rfl (lv_at hl 0 rfl) ?_
  refine lv_iconst (v := (0 : Int32)) hx hb dX12_totalSize_1 (by decide) ?_
  obtain ⟨σ1, hs1, h⟩ := sq_el h
  refine x_putI C S KX12 hx0 0 (by decide) rfl rfl rfl ⟨rfl, rfl⟩ fl_RX12_3 dX12_totalSize_2 hs1 (fun H locs S => ?_)
  refine lv_aload_n hx hb dX12_totalSize_5 rfl (lv_at hl 0 rfl) ?_
  refine lv_iload_n hx hb dX12_totalSize_6 rfl (lv_at hl 1 rfl) ?_
  obtain ⟨a2, σ2, hc2, h⟩ := bd_el h
  refine x_callVI C S KX12 hx0 (ok_X12_noBlast (L := L) hc2 hSh hx0) ⟨cd_X12_noBlast, ni_RX12, ml_RX12_198, in_X12_noBlast, sl_X12_noBlast⟩ ⟨by decide, by decide⟩ rfl ⟨by decide, by decide⟩ hl.1 rfl (Nat.le_of_ble_eq_true rfl) ⟨by decide, by decide⟩ dX12_totalSize_7 (fun H locs S => ?_)
  refine lv_if_eq (tgt := 15) hx hb dX12_totalSize_10 (by decide) (fun c3 => ?_) (fun c3 => ?_)
  · have h := it_p c3 h
    refine lv_iconst (v := (0 : Int32)) hx hb dX12_totalSize_15 (by decide) ?_
    refine lv_istore_n (lv' := [(2, .int (0 : Int32)), (0, .ref (gb g + x0)), (1, .int x1)]) hx hb dX12_totalSize_16 rfl hl (by decide) rfl (fun ls hl => ?_)
    refine lv_iconst (v := (0 : Int32)) hx hb dX12_totalSize_17 (by decide) ?_
    refine lv_istore_n (lv' := [(3, .int (0 : Int32)), (2, .int (0 : Int32)), (0, .ref (gb g + x0)), (1, .int x1)]) hx hb dX12_totalSize_18 rfl hl (by decide) rfl (fun ls hl => ?_)
    exact w_X12_totalSize_19 C hr hSh N σ2 x0 x1 (0 : Int32) (0 : Int32) h hx0 H locs ls S (lv_sub hl [2, 3, 1, 0] rfl)
  · have h := it_n c3 h
    refine lv_iconst (v := (0 : Int32)) hx hb dX12_totalSize_13 (by decide) ?_
    exact x_iret C S hr h dX12_totalSize_14
theorem dX12_delaySpan_0 : decode cX12_delaySpan 0 = .ok (.aload_n 0, 1) := by decide +kernel
theorem dX12_delaySpan_1 : decode cX12_delaySpan 1 = .ok (.iconst 0, 1) := by decide +kernel
theorem dX12_delaySpan_2 : decode cX12_delaySpan 2 = .ok (.putfield 3, 3) := by decide +kernel
theorem dX12_delaySpan_5 : decode cX12_delaySpan 5 = .ok (.aload_n 0, 1) := by decide +kernel
theorem dX12_delaySpan_6 : decode cX12_delaySpan 6 = .ok (.iload_n 1, 1) := by decide +kernel
theorem dX12_delaySpan_7 : decode cX12_delaySpan 7 = .ok (.invokevirtual 198, 3) := by decide +kernel
theorem dX12_delaySpan_10 : decode cX12_delaySpan 10 = .ok (.ifCond .eq 5, 3) := by decide +kernel
theorem dX12_delaySpan_13 : decode cX12_delaySpan 13 = .ok (.iconst 0, 1) := by decide +kernel
theorem dX12_delaySpan_14 : decode cX12_delaySpan 14 = .ok (.ireturn, 1) := by decide +kernel
theorem dX12_delaySpan_15 : decode cX12_delaySpan 15 = .ok (.aload_n 0, 1) := by decide +kernel
theorem dX12_delaySpan_16 : decode cX12_delaySpan 16 = .ok (.iload_n 1, 1) := by decide +kernel
theorem dX12_delaySpan_17 : decode cX12_delaySpan 17 = .ok (.iconst 0, 1) := by decide +kernel
theorem dX12_delaySpan_18 : decode cX12_delaySpan 18 = .ok (.invokevirtual 212, 3) := by decide +kernel
theorem dX12_delaySpan_21 : decode cX12_delaySpan 21 = .ok (.istore_n 2, 1) := by decide +kernel
theorem dX12_delaySpan_22 : decode cX12_delaySpan 22 = .ok (.iload_n 2, 1) := by decide +kernel
theorem dX12_delaySpan_23 : decode cX12_delaySpan 23 = .ok (.istore_n 3, 1) := by decide +kernel
theorem dX12_delaySpan_24 : decode cX12_delaySpan 24 = .ok (.iconst 1, 1) := by decide +kernel
theorem dX12_delaySpan_25 : decode cX12_delaySpan 25 = .ok (.istore 4, 2) := by decide +kernel
theorem dX12_delaySpan_27 : decode cX12_delaySpan 27 = .ok (.iload 4, 2) := by decide +kernel
theorem dX12_delaySpan_29 : decode cX12_delaySpan 29 = .ok (.aload_n 0, 1) := by decide +kernel
theorem dX12_delaySpan_30 : decode cX12_delaySpan 30 = .ok (.iload_n 1, 1) := by decide +kernel
theorem dX12_delaySpan_31 : decode cX12_delaySpan 31 = .ok (.invokevirtual 202, 3) := by decide +kernel
theorem dX12_delaySpan_34 : decode cX12_delaySpan 34 = .ok (.if_icmp .ge 33, 3) := by decide +kernel
theorem dX12_delaySpan_37 : decode cX12_delaySpan 37 = .ok (.iload_n 2, 1) := by decide +kernel
theorem dX12_delaySpan_38 : decode cX12_delaySpan 38 = .ok (.aload_n 0, 1) := by decide +kernel
theorem dX12_delaySpan_39 : decode cX12_delaySpan 39 = .ok (.iload_n 1, 1) := by decide +kernel
theorem dX12_delaySpan_40 : decode cX12_delaySpan 40 = .ok (.iload 4, 2) := by decide +kernel
theorem dX12_delaySpan_42 : decode cX12_delaySpan 42 = .ok (.invokevirtual 212, 3) := by decide +kernel
theorem dX12_delaySpan_45 : decode cX12_delaySpan 45 = .ok (.invokestatic 215, 3) := by decide +kernel
theorem dX12_delaySpan_48 : decode cX12_delaySpan 48 = .ok (.istore_n 2, 1) := by decide +kernel
theorem dX12_delaySpan_49 : decode cX12_delaySpan 49 = .ok (.iload_n 3, 1) := by decide +kernel
theorem dX12_delaySpan_50 : decode cX12_delaySpan 50 = .ok (.aload_n 0, 1) := by decide +kernel
theorem dX12_delaySpan_51 : decode cX12_delaySpan 51 = .ok (.iload_n 1, 1) := by decide +kernel
theorem dX12_delaySpan_52 : decode cX12_delaySpan 52 = .ok (.iload 4, 2) := by decide +kernel
theorem dX12_delaySpan_54 : decode cX12_delaySpan 54 = .ok (.invokevirtual 212, 3) := by decide +kernel
theorem dX12_delaySpan_57 : decode cX12_delaySpan 57 = .ok (.invokestatic 220, 3) := by decide +kernel
theorem dX12_delaySpan_60 : decode cX12_delaySpan 60 = .ok (.istore_n 3, 1) := by decide +kernel
theorem dX12_delaySpan_61 : decode cX12_delaySpan 61 = .ok (.iinc 4 1, 3) := by decide +kernel
theorem dX12_delaySpan_64 : decode cX12_delaySpan 64 = .ok (.goto (-37), 3) := by decide +kernel
theorem dX12_delaySpan_67 : decode cX12_delaySpan 67 = .ok (.iload_n 3, 1) := by decide +kernel
theorem dX12_delaySpan_68 : decode cX12_delaySpan 68 = .ok (.iload_n 2, 1) := by decide +kernel
theorem dX12_delaySpan_69 : decode cX12_delaySpan 69 = .ok (.isub, 1) := by decide +kernel
theorem dX12_delaySpan_70 : decode cX12_delaySpan 70 = .ok (.ireturn, 1) := by decide +kernel
def f_X12_delaySpan_27 (N : Nat) (R : Nat → Nat → Nat) : Nat → SI → Nat → Int32 → Int32 → Int32 → Int32 → Option (Int32 × SI)
  | 0, _, _, _, _, _, _ => none
  | n + 1, σ, x0, x1, x2, x3, x4 => bd (f_X12_charges N R σ x0 x1) (fun a5 σ5 => if a5 ≤ x4 then (some (x3 - x2, σ5)) else (bd (f_X12_delayOf N R σ5 x0 x1 x4) (fun a7 σ7 => bd (f_X12_delayOf N R σ7 x0 x1 x4) (fun a8 σ8 => f_X12_delaySpan_27 N R n σ8 x0 x1 (if a7 < x2 then a7 else x2) (if x3 < a8 then a8 else x3) (x4 + 1)))))
def f_X12_delaySpan (N : Nat) (R : Nat → Nat → Nat) (σ : SI) (x0 : Nat) (x1 : Int32) : Option (Int32 × SI) := sq (up σ x0 0 (0 : Int32)) (fun σ1 => bd (f_X12_noBlast N R σ1 x0 x1) (fun a2 σ2 => if a2 = 0 then (bd (f_X12_delayOf N R σ2 x0 x1 (0 : Int32)) (fun a4 σ4 => f_X12_delaySpan_27 N R N σ4 x0 x1 a4 a4 (1 : Int32))) else (some ((0 : Int32), σ2))))
set_option maxHeartbeats 4000000 in
set_option maxRecDepth 100000 in
theorem w_X12_delaySpan_27 {l : Launch} {g : GL} {p : Program} {e : Jvm.Env} {s : State} {m : MethodId} {args : Array Value} {below : List Frame} {meth : Method} {c : Code} {R : Nat → Nat → Nat} {L : Nat → Nat → Int64} {r : (Int32 × SI)} {N : Nat} (C : Cx l g p s m meth c cX12_delaySpan 5 RX12) (hr : meth.sig.returnType = (some .int)) (hSh : ShR R) : ∀ (n : Nat) (σ : SI) (x0 : Nat) (x1 : Int32) (x2 : Int32) (x3 : Int32) (x4 : Int32), f_X12_delaySpan_27 N R n σ x0 x1 x2 x3 x4 = some r → Ok 194 x0 12 → ∀ (H : Heap) (locs : List Loc) (ls : Array Slot), S2 g s σ R L H locs → lv_has ls 5 [(0, .ref (gb g + x0)), (1, .int x1), (2, .int x2), (3, .int x3), (4, .int x4)] → W p l e (rmd 3 0 0) s m args below meth c H locs 0 0 (MQ below (Qg g 194 (PI R L r)) args s 0 0 (gA g)) (F0 m 27 ls []) := by
  have hx := C.1
  have hb := C.2.1
  intro n
  induction n with
  | zero =>
    intro σ x0 x1 x2 x3 x4 h
    cases (show (none : Option (Int32 × SI)) = some r from h)
  | succ n ih =>
    intro σ x0 x1 x2 x3 x4 h hx0 H locs ls S hl
    rw [f_X12_delaySpan_27] at h
    refine lv_iload hx hb dX12_delaySpan_27 (lv_at hl 4 rfl) ?_
    refine lv_aload_n hx hb dX12_delaySpan_29 rfl (lv_at hl 0 rfl) ?_
    refine lv_iload_n hx hb dX12_delaySpan_30 rfl (lv_at hl 1 rfl) ?_
    obtain ⟨a5, σ5, hc5, h⟩ := bd_el h
    refine x_callVI C S KX12 hx0 (ok_X12_charges (L := L) hc5 hSh hx0) ⟨cd_X12_charges, ni_RX12, ml_RX12_202, in_X12_charges, sl_X12_charges⟩ ⟨by decide, by decide⟩ rfl ⟨by decide, by decide⟩ hl.1 rfl (Nat.le_of_ble_eq_true rfl) ⟨by decide, by decide⟩ dX12_delaySpan_31 (fun H locs S => ?_)
    refine lv_icmp_ge (tgt := 67) hx hb dX12_delaySpan_34 (by decide) (fun c6 => ?_) (fun c6 => ?_)
    · have h := it_p c6 h
      refine lv_iload_n hx hb dX12_delaySpan_67 rfl (lv_at hl 3 rfl) ?_
      refine lv_iload_n hx hb dX12_delaySpan_68 rfl (lv_at hl 2 rfl) ?_
      refine lv_isub hx hb dX12_delaySpan_69 ?_
      exact x_iret C S hr h dX12_delaySpan_70
    · have h := it_n c6 h
      refine lv_iload_n hx hb dX12_delaySpan_37 rfl (lv_at hl 2 rfl) ?_
      refine lv_aload_n hx hb dX12_delaySpan_38 rfl (lv_at hl 0 rfl) ?_
      refine lv_iload_n hx hb dX12_delaySpan_39 rfl (lv_at hl 1 rfl) ?_
      refine lv_iload hx hb dX12_delaySpan_40 (lv_at hl 4 rfl) ?_
      obtain ⟨a7, σ7, hc7, h⟩ := bd_el h
      refine x_callVI C S KX12 hx0 (ok_X12_delayOf (L := L) hc7 hSh hx0) ⟨cd_X12_delayOf, ni_RX12, ml_RX12_212, in_X12_delayOf, sl_X12_delayOf⟩ ⟨by decide, by decide⟩ rfl ⟨by decide, by decide⟩ hl.1 rfl (Nat.le_of_ble_eq_true rfl) ⟨by decide, by decide⟩ dX12_delaySpan_42 (fun H locs S => ?_)
      refine x_min C hl.1 ⟨ml_RX12_215, st_math_min, ni_math, cd_math_min⟩ (Nat.le_of_ble_eq_true rfl) (Nat.le_of_ble_eq_true rfl) (Nat.le_of_ble_eq_true rfl) (Nat.le_of_ble_eq_true rfl) dX12_delaySpan_45 ?_
      refine lv_istore_n (lv' := [(2, .int (if a7 < x2 then a7 else x2)), (0, .ref (gb g + x0)), (1, .int x1), (3, .int x3), (4, .int x4)]) hx hb dX12_delaySpan_48 rfl hl (by decide) rfl (fun ls hl => ?_)
      refine lv_iload_n hx hb dX12_delaySpan_49 rfl (lv_at hl 3 rfl) ?_
      refine lv_aload_n hx hb dX12_delaySpan_50 rfl (lv_at hl 1 rfl) ?_
      refine lv_iload_n hx hb dX12_delaySpan_51 rfl (lv_at hl 2 rfl) ?_
      refine lv_iload hx hb dX12_delaySpan_52 (lv_at hl 4 rfl) ?_
      obtain ⟨a8, σ8, hc8, h⟩ := bd_el h
      refine x_callVI C S KX12 hx0 (ok_X12_delayOf (L := L) hc8 hSh hx0) ⟨cd_X12_delayOf, ni_RX12, ml_RX12_212, in_X12_delayOf, sl_X12_delayOf⟩ ⟨by decide, by decide⟩ rfl ⟨by decide, by decide⟩ hl.1 rfl (Nat.le_of_ble_eq_true rfl) ⟨by decide, by decide⟩ dX12_delaySpan_54 (fun H locs S => ?_)
      refine x_max C hl.1 ⟨ml_RX12_220, st_math_max, ni_math, cd_math_max⟩ (Nat.le_of_ble_eq_true rfl) (Nat.le_of_ble_eq_true rfl) (Nat.le_of_ble_eq_true rfl) (Nat.le_of_ble_eq_true rfl) dX12_delaySpan_57 ?_
      refine lv_istore_n (lv' := [(3, .int (if x3 < a8 then a8 else x3)), (2, .int (if a7 < x2 then a7 else x2)), (0, .ref (gb g + x0)), (1, .int x1), (4, .int x4)]) hx hb dX12_delaySpan_60 rfl hl (by decide) rfl (fun ls hl => ?_)
      refine lv_iinc (v := x4 + 1) (lv' := [(4, .int (x4 + 1)), (3, .int (if x3 < a8 then a8 else x3)), (2, .int (if a7 < x2 then a7 else x2)), (0, .ref (gb g + x0)), (1, .int x1)]) hx hb dX12_delaySpan_61 hl (k := 4) rfl rfl (by decide) rfl (fun ls hl => ?_)
      refine lv_goto (tgt := 27) hx hb dX12_delaySpan_64 (by decide) ?_
      exact ih σ8 x0 x1 (if a7 < x2 then a7 else x2) (if x3 < a8 then a8 else x3) (x4 + 1) h hx0 H locs ls S (lv_sub hl [3, 4, 2, 1, 0] rfl)
set_option maxHeartbeats 4000000 in
set_option maxRecDepth 100000 in
theorem ok_X12_delaySpan {l : Launch} {g : GL} {R : Nat → Nat → Nat} {L : Nat → Nat → Int64} {N : Nat} {σ : SI} {x0 : Nat} {x1 : Int32} {r : (Int32 × SI)} (h : f_X12_delaySpan N R σ x0 x1 = some r) (hSh : ShR R) (hx0 : Ok 194 x0 12) : Ct l g 3 yX12_delaySpan cX12_delaySpan 5 (some .int) 194 194 0 0 [.ref (gb g + x0), .int x1] (mkS σ R L) (PI R L r) := by
  refine Met.ofW (cc := cX12_delaySpan) (maxL := 5) (ret := (some .int)) (by decide) rfl ?_
  intro p e s m args below meth c s₁ B hml hv
  obtain ⟨rfl, hE, hLo, hWd⟩ := hv
  have hr : meth.sig.returnType = (some .int) := B.returns
  have C : Cx l g p s m meth c cX12_delaySpan 5 RX12 := ⟨B.exec, B.bytes, hml, findClass_of_methodNamed B.named, hE, hLo, B.notSynchronized⟩
  have S : S2 g s σ R L s.heap [] := ⟨hWd, va_S.rf⟩
  have hx := C.1
  have hb := C.2.1
  have hl := lv_entry ([.ref (gb g + x0), .int x1]) (n := 5) (Nat.le_of_ble_eq_true rfl)
  rw [lg_entry_eq]
  generalize (lg_sl ([.ref (gb g + x0), .int x1]) ++ List.replicate (5 - (lg_sl ([.ref (gb g + x0), .int x1])).length) Slot.unset).toArray = ls at hl ⊢
  have hl : lv_has ls 5 [(0, .ref (gb g + x0)), (1, .int x1)] := hl
  generalize hH : s.heap = H at S ⊢
  generalize hlc : ([] : List Loc) = locs at S ⊢
  rw [f_X12_delaySpan] at h
  refine lv_aload_n hx hb dX12_delaySpan_0 rfl (lv_at hl 0 rfl) ?_
  refine lv_iconst (v := (0 : Int32)) hx hb dX12_delaySpan_1 (by decide) ?_
  obtain ⟨σ1, hs1, h⟩ := sq_el h
  refine x_putI C S KX12 hx0 0 (by decide) rfl rfl rfl ⟨rfl, rfl⟩ fl_RX12_3 dX12_delaySpan_2 hs1 (fun H locs S => ?_)
  refine lv_aload_n hx hb dX12_delaySpan_5 rfl (lv_at hl 0 rfl) ?_
  refine lv_iload_n hx hb dX12_delaySpan_6 rfl (lv_at hl 1 rfl) ?_
  obtain ⟨a2, σ2, hc2, h⟩ := bd_el h
  refine x_callVI C S KX12 hx0 (ok_X12_noBlast (L := L) hc2 hSh hx0) ⟨cd_X12_noBlast, ni_RX12, ml_RX12_198, in_X12_noBlast, sl_X12_noBlast⟩ ⟨by decide, by decide⟩ rfl ⟨by decide, by decide⟩ hl.1 rfl (Nat.le_of_ble_eq_true rfl) ⟨by decide, by decide⟩ dX12_delaySpan_7 (fun H locs S => ?_)
  refine lv_if_eq (tgt := 15) hx hb dX12_delaySpan_10 (by decide) (fun c3 => ?_) (fun c3 => ?_)
  · have h := it_p c3 h
    refine lv_aload_n hx hb dX12_delaySpan_15 rfl (lv_at hl 0 rfl) ?_
    refine lv_iload_n hx hb dX12_delaySpan_16 rfl (lv_at hl 1 rfl) ?_
    refine lv_iconst (v := (0 : Int32)) hx hb dX12_delaySpan_17 (by decide) ?_
    obtain ⟨a4, σ4, hc4, h⟩ := bd_el h
    refine x_callVI C S KX12 hx0 (ok_X12_delayOf (L := L) hc4 hSh hx0) ⟨cd_X12_delayOf, ni_RX12, ml_RX12_212, in_X12_delayOf, sl_X12_delayOf⟩ ⟨by decide, by decide⟩ rfl ⟨by decide, by decide⟩ hl.1 rfl (Nat.le_of_ble_eq_true rfl) ⟨by decide, by decide⟩ dX12_delaySpan_18 (fun H locs S => ?_)
    refine lv_istore_n (lv' := [(2, .int a4), (0, .ref (gb g + x0)), (1, .int x1)]) hx hb dX12_delaySpan_21 rfl hl (by decide) rfl (fun ls hl => ?_)
    refine lv_iload_n hx hb dX12_delaySpan_22 rfl (lv_at hl 0 rfl) ?_
    refine lv_istore_n (lv' := [(3, .int a4), (2, .int a4), (0, .ref (gb g + x0)), (1, .int x1)]) hx hb dX12_delaySpan_23 rfl hl (by decide) rfl (fun ls hl => ?_)
    refine lv_iconst (v := (1 : Int32)) hx hb dX12_delaySpan_24 (by decide) ?_
    refine lv_istore (lv' := [(4, .int (1 : Int32)), (3, .int a4), (2, .int a4), (0, .ref (gb g + x0)), (1, .int x1)]) hx hb dX12_delaySpan_25 hl (by decide) rfl (fun ls hl => ?_)
    exact w_X12_delaySpan_27 C hr hSh N σ4 x0 x1 a4 a4 (1 : Int32) h hx0 H locs ls S (lv_sub hl [3, 4, 2, 1, 0] rfl)
  · have h := it_n c3 h
    refine lv_iconst (v := (0 : Int32)) hx hb dX12_delaySpan_13 (by decide) ?_
    exact x_iret C S hr h dX12_delaySpan_14
theorem dX12_windowFrom_0 : decode cX12_windowFrom 0 = .ok (.iconst 0, 1) := by decide +kernel
theorem dX12_windowFrom_1 : decode cX12_windowFrom 1 = .ok (.istore 4, 2) := by decide +kernel
theorem dX12_windowFrom_3 : decode cX12_windowFrom 3 = .ok (.iconst 0, 1) := by decide +kernel
theorem dX12_windowFrom_4 : decode cX12_windowFrom 4 = .ok (.istore 5, 2) := by decide +kernel
theorem dX12_windowFrom_6 : decode cX12_windowFrom 6 = .ok (.iload 5, 2) := by decide +kernel
theorem dX12_windowFrom_8 : decode cX12_windowFrom 8 = .ok (.aload_n 0, 1) := by decide +kernel
theorem dX12_windowFrom_9 : decode cX12_windowFrom 9 = .ok (.iload_n 1, 1) := by decide +kernel
theorem dX12_windowFrom_10 : decode cX12_windowFrom 10 = .ok (.invokevirtual 202, 3) := by decide +kernel
theorem dX12_windowFrom_13 : decode cX12_windowFrom 13 = .ok (.if_icmp .ge 54, 3) := by decide +kernel
theorem dX12_windowFrom_16 : decode cX12_windowFrom 16 = .ok (.iload 4, 2) := by decide +kernel
theorem dX12_windowFrom_18 : decode cX12_windowFrom 18 = .ok (.iload_n 3, 1) := by decide +kernel
theorem dX12_windowFrom_19 : decode cX12_windowFrom 19 = .ok (.ifCond .ge 13, 3) := by decide +kernel
theorem dX12_windowFrom_22 : decode cX12_windowFrom 22 = .ok (.aload_n 0, 1) := by decide +kernel
theorem dX12_windowFrom_23 : decode cX12_windowFrom 23 = .ok (.iload_n 1, 1) := by decide +kernel
theorem dX12_windowFrom_24 : decode cX12_windowFrom 24 = .ok (.iload 5, 2) := by decide +kernel
theorem dX12_windowFrom_26 : decode cX12_windowFrom 26 = .ok (.invokevirtual 212, 3) := by decide +kernel
theorem dX12_windowFrom_29 : decode cX12_windowFrom 29 = .ok (.goto 7, 3) := by decide +kernel
theorem dX12_windowFrom_32 : decode cX12_windowFrom 32 = .ok (.iload_n 3, 1) := by decide +kernel
theorem dX12_windowFrom_33 : decode cX12_windowFrom 33 = .ok (.iload 5, 2) := by decide +kernel
theorem dX12_windowFrom_35 : decode cX12_windowFrom 35 = .ok (.imul, 1) := by decide +kernel
theorem dX12_windowFrom_36 : decode cX12_windowFrom 36 = .ok (.iload_n 2, 1) := by decide +kernel
theorem dX12_windowFrom_37 : decode cX12_windowFrom 37 = .ok (.iload_n 2, 1) := by decide +kernel
theorem dX12_windowFrom_38 : decode cX12_windowFrom 38 = .ok (.bipush 7, 2) := by decide +kernel
theorem dX12_windowFrom_40 : decode cX12_windowFrom 40 = .ok (.iadd, 1) := by decide +kernel
theorem dX12_windowFrom_41 : decode cX12_windowFrom 41 = .ok (.invokestatic 71, 3) := by decide +kernel
theorem dX12_windowFrom_44 : decode cX12_windowFrom 44 = .ok (.ifCond .eq 13, 3) := by decide +kernel
theorem dX12_windowFrom_47 : decode cX12_windowFrom 47 = .ok (.aload_n 0, 1) := by decide +kernel
theorem dX12_windowFrom_48 : decode cX12_windowFrom 48 = .ok (.iload_n 1, 1) := by decide +kernel
theorem dX12_windowFrom_49 : decode cX12_windowFrom 49 = .ok (.iload 5, 2) := by decide +kernel
theorem dX12_windowFrom_51 : decode cX12_windowFrom 51 = .ok (.invokevirtual 209, 3) := by decide +kernel
theorem dX12_windowFrom_54 : decode cX12_windowFrom 54 = .ok (.goto 4, 3) := by decide +kernel
theorem dX12_windowFrom_57 : decode cX12_windowFrom 57 = .ok (.iconst 0, 1) := by decide +kernel
theorem dX12_windowFrom_58 : decode cX12_windowFrom 58 = .ok (.iadd, 1) := by decide +kernel
theorem dX12_windowFrom_59 : decode cX12_windowFrom 59 = .ok (.istore 4, 2) := by decide +kernel
theorem dX12_windowFrom_61 : decode cX12_windowFrom 61 = .ok (.iinc 5 1, 3) := by decide +kernel
theorem dX12_windowFrom_64 : decode cX12_windowFrom 64 = .ok (.goto (-58), 3) := by decide +kernel
theorem dX12_windowFrom_67 : decode cX12_windowFrom 67 = .ok (.iload 4, 2) := by decide +kernel
theorem dX12_windowFrom_69 : decode cX12_windowFrom 69 = .ok (.ireturn, 1) := by decide +kernel
def f_X12_windowFrom_6 (N : Nat) (R : Nat → Nat → Nat) : Nat → SI → Nat → Int32 → Int32 → Int32 → Int32 → Int32 → Option (Int32 × SI)
  | 0, _, _, _, _, _, _, _ => none
  | n + 1, σ, x0, x1, x2, x3, x4, x5 => bd (f_X12_charges N R σ x0 x1) (fun a1 σ1 => if a1 ≤ x5 then (some (x4, σ1)) else (if 0 ≤ x3 then (bd (f_X12_in N R σ1 (x3 * x5) x2 (x2 + (7 : Int32))) (fun a4 σ4 => if a4 = 0 then (f_X12_windowFrom_6 N R n σ4 x0 x1 x2 x3 (x4 + (0 : Int32)) (x5 + 1)) else (bd (f_X12_chargeOf N R σ4 x0 x1 x5) (fun a6 σ6 => f_X12_windowFrom_6 N R n σ6 x0 x1 x2 x3 (x4 + a6) (x5 + 1))))) else (bd (f_X12_delayOf N R σ1 x0 x1 x5) (fun a7 σ7 => bd (f_X12_in N R σ7 a7 x2 (x2 + (7 : Int32))) (fun a8 σ8 => if a8 = 0 then (f_X12_windowFrom_6 N R n σ8 x0 x1 x2 x3 (x4 + (0 : Int32)) (x5 + 1)) else (bd (f_X12_chargeOf N R σ8 x0 x1 x5) (fun a10 σ10 => f_X12_windowFrom_6 N R n σ10 x0 x1 x2 x3 (x4 + a10) (x5 + 1))))))))
def f_X12_windowFrom (N : Nat) (R : Nat → Nat → Nat) (σ : SI) (x0 : Nat) (x1 : Int32) (x2 : Int32) (x3 : Int32) : Option (Int32 × SI) := f_X12_windowFrom_6 N R N σ x0 x1 x2 x3 (0 : Int32) (0 : Int32)
set_option maxHeartbeats 4000000 in
set_option maxRecDepth 100000 in
theorem w_X12_windowFrom_6 {l : Launch} {g : GL} {p : Program} {e : Jvm.Env} {s : State} {m : MethodId} {args : Array Value} {below : List Frame} {meth : Method} {c : Code} {R : Nat → Nat → Nat} {L : Nat → Nat → Int64} {r : (Int32 × SI)} {N : Nat} (C : Cx l g p s m meth c cX12_windowFrom 6 RX12) (hr : meth.sig.returnType = (some .int)) (hSh : ShR R) : ∀ (n : Nat) (σ : SI) (x0 : Nat) (x1 : Int32) (x2 : Int32) (x3 : Int32) (x4 : Int32) (x5 : Int32), f_X12_windowFrom_6 N R n σ x0 x1 x2 x3 x4 x5 = some r → Ok 194 x0 12 → ∀ (H : Heap) (locs : List Loc) (ls : Array Slot), S2 g s σ R L H locs → lv_has ls 6 [(0, .ref (gb g + x0)), (1, .int x1), (2, .int x2), (3, .int x3), (4, .int x4), (5, .int x5)] → W p l e (rmd 3 0 0) s m args below meth c H locs 0 0 (MQ below (Qg g 194 (PI R L r)) args s 0 0 (gA g)) (F0 m 6 ls []) := by
  have hx := C.1
  have hb := C.2.1
  intro n
  induction n with
  | zero =>
    intro σ x0 x1 x2 x3 x4 x5 h
    cases (show (none : Option (Int32 × SI)) = some r from h)
  | succ n ih =>
    intro σ x0 x1 x2 x3 x4 x5 h hx0 H locs ls S hl
    rw [f_X12_windowFrom_6] at h
    refine lv_iload hx hb dX12_windowFrom_6 (lv_at hl 5 rfl) ?_
    refine lv_aload_n hx hb dX12_windowFrom_8 rfl (lv_at hl 0 rfl) ?_
    refine lv_iload_n hx hb dX12_windowFrom_9 rfl (lv_at hl 1 rfl) ?_
    obtain ⟨a1, σ1, hc1, h⟩ := bd_el h
    refine x_callVI C S KX12 hx0 (ok_X12_charges (L := L) hc1 hSh hx0) ⟨cd_X12_charges, ni_RX12, ml_RX12_202, in_X12_charges, sl_X12_charges⟩ ⟨by decide, by decide⟩ rfl ⟨by decide, by decide⟩ hl.1 rfl (Nat.le_of_ble_eq_true rfl) ⟨by decide, by decide⟩ dX12_windowFrom_10 (fun H locs S => ?_)
    refine lv_icmp_ge (tgt := 67) hx hb dX12_windowFrom_13 (by decide) (fun c2 => ?_) (fun c2 => ?_)
    · have h := it_p c2 h
      refine lv_iload hx hb dX12_windowFrom_67 (lv_at hl 4 rfl) ?_
      exact x_iret C S hr h dX12_windowFrom_69
    · have h := it_n c2 h
      refine lv_iload hx hb dX12_windowFrom_16 (lv_at hl 4 rfl) ?_
      refine lv_iload_n hx hb dX12_windowFrom_18 rfl (lv_at hl 3 rfl) ?_
      refine lv_if_ge (tgt := 32) hx hb dX12_windowFrom_19 (by decide) (fun c3 => ?_) (fun c3 => ?_)
      · have h := it_p c3 h
        refine lv_iload_n hx hb dX12_windowFrom_32 rfl (lv_at hl 3 rfl) ?_
        refine lv_iload hx hb dX12_windowFrom_33 (lv_at hl 5 rfl) ?_
        refine lv_imul hx hb dX12_windowFrom_35 ?_
        refine lv_iload_n hx hb dX12_windowFrom_36 rfl (lv_at hl 2 rfl) ?_
        refine lv_iload_n hx hb dX12_windowFrom_37 rfl (lv_at hl 2 rfl) ?_
        refine lv_bipush (v := (7 : Int32)) hx hb dX12_windowFrom_38 (by decide) ?_
        refine lv_iadd hx hb dX12_windowFrom_40 ?_
        obtain ⟨a4, σ4, hc4, h⟩ := bd_el h
        refine x_callSI C S (ok_X12_in (L := L) hc4 hSh) ⟨cd_X12_in, ni_RX12, ml_RX12_71, st_X12_in⟩ ⟨by decide, by decide⟩ rfl ⟨by decide, by decide⟩ hl.1 rfl (Nat.le_of_ble_eq_true rfl) ⟨by decide, by decide⟩ dX12_windowFrom_41 (fun H locs S => ?_)
        refine lv_if_eq (tgt := 57) hx hb dX12_windowFrom_44 (by decide) (fun c5 => ?_) (fun c5 => ?_)
        · have h := it_p c5 h
          refine lv_iconst (v := (0 : Int32)) hx hb dX12_windowFrom_57 (by decide) ?_
          refine lv_iadd hx hb dX12_windowFrom_58 ?_
          refine lv_istore (lv' := [(4, .int (x4 + (0 : Int32))), (0, .ref (gb g + x0)), (1, .int x1), (2, .int x2), (3, .int x3), (5, .int x5)]) hx hb dX12_windowFrom_59 hl (by decide) rfl (fun ls hl => ?_)
          refine lv_iinc (v := x5 + 1) (lv' := [(5, .int (x5 + 1)), (4, .int (x4 + (0 : Int32))), (0, .ref (gb g + x0)), (1, .int x1), (2, .int x2), (3, .int x3)]) hx hb dX12_windowFrom_61 hl (k := 5) rfl rfl (by decide) rfl (fun ls hl => ?_)
          refine lv_goto (tgt := 6) hx hb dX12_windowFrom_64 (by decide) ?_
          exact ih σ4 x0 x1 x2 x3 (x4 + (0 : Int32)) (x5 + 1) h hx0 H locs ls S (lv_sub hl [2, 3, 4, 5, 1, 0] rfl)
        · have h := it_n c5 h
          refine lv_aload_n hx hb dX12_windowFrom_47 rfl (lv_at hl 0 rfl) ?_
          refine lv_iload_n hx hb dX12_windowFrom_48 rfl (lv_at hl 1 rfl) ?_
          refine lv_iload hx hb dX12_windowFrom_49 (lv_at hl 5 rfl) ?_
          obtain ⟨a6, σ6, hc6, h⟩ := bd_el h
          refine x_callVI C S KX12 hx0 (ok_X12_chargeOf (L := L) hc6 hSh hx0) ⟨cd_X12_chargeOf, ni_RX12, ml_RX12_209, in_X12_chargeOf, sl_X12_chargeOf⟩ ⟨by decide, by decide⟩ rfl ⟨by decide, by decide⟩ hl.1 rfl (Nat.le_of_ble_eq_true rfl) ⟨by decide, by decide⟩ dX12_windowFrom_51 (fun H locs S => ?_)
          refine lv_goto (tgt := 58) hx hb dX12_windowFrom_54 (by decide) ?_
          refine lv_iadd hx hb dX12_windowFrom_58 ?_
          refine lv_istore (lv' := [(4, .int (x4 + a6)), (0, .ref (gb g + x0)), (1, .int x1), (2, .int x2), (3, .int x3), (5, .int x5)]) hx hb dX12_windowFrom_59 hl (by decide) rfl (fun ls hl => ?_)
          refine lv_iinc (v := x5 + 1) (lv' := [(5, .int (x5 + 1)), (4, .int (x4 + a6)), (0, .ref (gb g + x0)), (1, .int x1), (2, .int x2), (3, .int x3)]) hx hb dX12_windowFrom_61 hl (k := 5) rfl rfl (by decide) rfl (fun ls hl => ?_)
          refine lv_goto (tgt := 6) hx hb dX12_windowFrom_64 (by decide) ?_
          exact ih σ6 x0 x1 x2 x3 (x4 + a6) (x5 + 1) h hx0 H locs ls S (lv_sub hl [2, 3, 4, 5, 1, 0] rfl)
      · have h := it_n c3 h
        refine lv_aload_n hx hb dX12_windowFrom_22 rfl (lv_at hl 0 rfl) ?_
        refine lv_iload_n hx hb dX12_windowFrom_23 rfl (lv_at hl 1 rfl) ?_
        refine lv_iload hx hb dX12_windowFrom_24 (lv_at hl 5 rfl) ?_
        obtain ⟨a7, σ7, hc7, h⟩ := bd_el h
        refine x_callVI C S KX12 hx0 (ok_X12_delayOf (L := L) hc7 hSh hx0) ⟨cd_X12_delayOf, ni_RX12, ml_RX12_212, in_X12_delayOf, sl_X12_delayOf⟩ ⟨by decide, by decide⟩ rfl ⟨by decide, by decide⟩ hl.1 rfl (Nat.le_of_ble_eq_true rfl) ⟨by decide, by decide⟩ dX12_windowFrom_26 (fun H locs S => ?_)
        refine lv_goto (tgt := 36) hx hb dX12_windowFrom_29 (by decide) ?_
        refine lv_iload_n hx hb dX12_windowFrom_36 rfl (lv_at hl 2 rfl) ?_
        refine lv_iload_n hx hb dX12_windowFrom_37 rfl (lv_at hl 2 rfl) ?_
        refine lv_bipush (v := (7 : Int32)) hx hb dX12_windowFrom_38 (by decide) ?_
        refine lv_iadd hx hb dX12_windowFrom_40 ?_
        obtain ⟨a8, σ8, hc8, h⟩ := bd_el h
        refine x_callSI C S (ok_X12_in (L := L) hc8 hSh) ⟨cd_X12_in, ni_RX12, ml_RX12_71, st_X12_in⟩ ⟨by decide, by decide⟩ rfl ⟨by decide, by decide⟩ hl.1 rfl (Nat.le_of_ble_eq_true rfl) ⟨by decide, by decide⟩ dX12_windowFrom_41 (fun H locs S => ?_)
        refine lv_if_eq (tgt := 57) hx hb dX12_windowFrom_44 (by decide) (fun c9 => ?_) (fun c9 => ?_)
        · have h := it_p c9 h
          refine lv_iconst (v := (0 : Int32)) hx hb dX12_windowFrom_57 (by decide) ?_
          refine lv_iadd hx hb dX12_windowFrom_58 ?_
          refine lv_istore (lv' := [(4, .int (x4 + (0 : Int32))), (0, .ref (gb g + x0)), (1, .int x1), (2, .int x2), (3, .int x3), (5, .int x5)]) hx hb dX12_windowFrom_59 hl (by decide) rfl (fun ls hl => ?_)
          refine lv_iinc (v := x5 + 1) (lv' := [(5, .int (x5 + 1)), (4, .int (x4 + (0 : Int32))), (0, .ref (gb g + x0)), (1, .int x1), (2, .int x2), (3, .int x3)]) hx hb dX12_windowFrom_61 hl (k := 5) rfl rfl (by decide) rfl (fun ls hl => ?_)
          refine lv_goto (tgt := 6) hx hb dX12_windowFrom_64 (by decide) ?_
          exact ih σ8 x0 x1 x2 x3 (x4 + (0 : Int32)) (x5 + 1) h hx0 H locs ls S (lv_sub hl [2, 3, 4, 5, 1, 0] rfl)
        · have h := it_n c9 h
          refine lv_aload_n hx hb dX12_windowFrom_47 rfl (lv_at hl 0 rfl) ?_
          refine lv_iload_n hx hb dX12_windowFrom_48 rfl (lv_at hl 1 rfl) ?_
          refine lv_iload hx hb dX12_windowFrom_49 (lv_at hl 5 rfl) ?_
          obtain ⟨a10, σ10, hc10, h⟩ := bd_el h
          refine x_callVI C S KX12 hx0 (ok_X12_chargeOf (L := L) hc10 hSh hx0) ⟨cd_X12_chargeOf, ni_RX12, ml_RX12_209, in_X12_chargeOf, sl_X12_chargeOf⟩ ⟨by decide, by decide⟩ rfl ⟨by decide, by decide⟩ hl.1 rfl (Nat.le_of_ble_eq_true rfl) ⟨by decide, by decide⟩ dX12_windowFrom_51 (fun H locs S => ?_)
          refine lv_goto (tgt := 58) hx hb dX12_windowFrom_54 (by decide) ?_
          refine lv_iadd hx hb dX12_windowFrom_58 ?_
          refine lv_istore (lv' := [(4, .int (x4 + a10)), (0, .ref (gb g + x0)), (1, .int x1), (2, .int x2), (3, .int x3), (5, .int x5)]) hx hb dX12_windowFrom_59 hl (by decide) rfl (fun ls hl => ?_)
          refine lv_iinc (v := x5 + 1) (lv' := [(5, .int (x5 + 1)), (4, .int (x4 + a10)), (0, .ref (gb g + x0)), (1, .int x1), (2, .int x2), (3, .int x3)]) hx hb dX12_windowFrom_61 hl (k := 5) rfl rfl (by decide) rfl (fun ls hl => ?_)
          refine lv_goto (tgt := 6) hx hb dX12_windowFrom_64 (by decide) ?_
          exact ih σ10 x0 x1 x2 x3 (x4 + a10) (x5 + 1) h hx0 H locs ls S (lv_sub hl [2, 3, 4, 5, 1, 0] rfl)
set_option maxHeartbeats 4000000 in
set_option maxRecDepth 100000 in
theorem ok_X12_windowFrom {l : Launch} {g : GL} {R : Nat → Nat → Nat} {L : Nat → Nat → Int64} {N : Nat} {σ : SI} {x0 : Nat} {x1 : Int32} {x2 : Int32} {x3 : Int32} {r : (Int32 × SI)} (h : f_X12_windowFrom N R σ x0 x1 x2 x3 = some r) (hSh : ShR R) (hx0 : Ok 194 x0 12) : Ct l g 3 yX12_windowFrom cX12_windowFrom 6 (some .int) 194 194 0 0 [.ref (gb g + x0), .int x1, .int x2, .int x3] (mkS σ R L) (PI R L r) := by
  refine Met.ofW (cc := cX12_windowFrom) (maxL := 6) (ret := (some .int)) (by decide) rfl ?_
  intro p e s m args below meth c s₁ B hml hv
  obtain ⟨rfl, hE, hLo, hWd⟩ := hv
  have hr : meth.sig.returnType = (some .int) := B.returns
  have C : Cx l g p s m meth c cX12_windowFrom 6 RX12 := ⟨B.exec, B.bytes, hml, findClass_of_methodNamed B.named, hE, hLo, B.notSynchronized⟩
  have S : S2 g s σ R L s.heap [] := ⟨hWd, va_S.rf⟩
  have hx := C.1
  have hb := C.2.1
  have hl := lv_entry ([.ref (gb g + x0), .int x1, .int x2, .int x3]) (n := 6) (Nat.le_of_ble_eq_true rfl)
  rw [lg_entry_eq]
  generalize (lg_sl ([.ref (gb g + x0), .int x1, .int x2, .int x3]) ++ List.replicate (6 - (lg_sl ([.ref (gb g + x0), .int x1, .int x2, .int x3])).length) Slot.unset).toArray = ls at hl ⊢
  have hl : lv_has ls 6 [(0, .ref (gb g + x0)), (1, .int x1), (2, .int x2), (3, .int x3)] := hl
  generalize hH : s.heap = H at S ⊢
  generalize hlc : ([] : List Loc) = locs at S ⊢
  rw [f_X12_windowFrom] at h
  refine lv_iconst (v := (0 : Int32)) hx hb dX12_windowFrom_0 (by decide) ?_
  refine lv_istore (lv' := [(4, .int (0 : Int32)), (0, .ref (gb g + x0)), (1, .int x1), (2, .int x2), (3, .int x3)]) hx hb dX12_windowFrom_1 hl (by decide) rfl (fun ls hl => ?_)
  refine lv_iconst (v := (0 : Int32)) hx hb dX12_windowFrom_3 (by decide) ?_
  refine lv_istore (lv' := [(5, .int (0 : Int32)), (4, .int (0 : Int32)), (0, .ref (gb g + x0)), (1, .int x1), (2, .int x2), (3, .int x3)]) hx hb dX12_windowFrom_4 hl (by decide) rfl (fun ls hl => ?_)
  exact w_X12_windowFrom_6 C hr hSh N σ x0 x1 x2 x3 (0 : Int32) (0 : Int32) h hx0 H locs ls S (lv_sub hl [2, 3, 4, 5, 1, 0] rfl)
theorem dX12_window_0 : decode cX12_window 0 = .ok (.iconst 0, 1) := by decide +kernel
theorem dX12_window_1 : decode cX12_window 1 = .ok (.istore_n 3, 1) := by decide +kernel
theorem dX12_window_2 : decode cX12_window 2 = .ok (.iconst 0, 1) := by decide +kernel
theorem dX12_window_3 : decode cX12_window 3 = .ok (.istore 4, 2) := by decide +kernel
theorem dX12_window_5 : decode cX12_window 5 = .ok (.iload 4, 2) := by decide +kernel
theorem dX12_window_7 : decode cX12_window 7 = .ok (.aload_n 0, 1) := by decide +kernel
theorem dX12_window_8 : decode cX12_window 8 = .ok (.iload_n 1, 1) := by decide +kernel
theorem dX12_window_9 : decode cX12_window 9 = .ok (.invokevirtual 202, 3) := by decide +kernel
theorem dX12_window_12 : decode cX12_window 12 = .ok (.if_icmp .ge 38, 3) := by decide +kernel
theorem dX12_window_15 : decode cX12_window 15 = .ok (.iload_n 3, 1) := by decide +kernel
theorem dX12_window_16 : decode cX12_window 16 = .ok (.aload_n 0, 1) := by decide +kernel
theorem dX12_window_17 : decode cX12_window 17 = .ok (.iload_n 1, 1) := by decide +kernel
theorem dX12_window_18 : decode cX12_window 18 = .ok (.iload_n 2, 1) := by decide +kernel
theorem dX12_window_19 : decode cX12_window 19 = .ok (.ifCond .ge 13, 3) := by decide +kernel
theorem dX12_window_22 : decode cX12_window 22 = .ok (.aload_n 0, 1) := by decide +kernel
theorem dX12_window_23 : decode cX12_window 23 = .ok (.iload_n 1, 1) := by decide +kernel
theorem dX12_window_24 : decode cX12_window 24 = .ok (.iload 4, 2) := by decide +kernel
theorem dX12_window_26 : decode cX12_window 26 = .ok (.invokevirtual 212, 3) := by decide +kernel
theorem dX12_window_29 : decode cX12_window 29 = .ok (.goto 7, 3) := by decide +kernel
theorem dX12_window_32 : decode cX12_window 32 = .ok (.iload_n 2, 1) := by decide +kernel
theorem dX12_window_33 : decode cX12_window 33 = .ok (.iload 4, 2) := by decide +kernel
theorem dX12_window_35 : decode cX12_window 35 = .ok (.imul, 1) := by decide +kernel
theorem dX12_window_36 : decode cX12_window 36 = .ok (.iload_n 2, 1) := by decide +kernel
theorem dX12_window_37 : decode cX12_window 37 = .ok (.invokevirtual 223, 3) := by decide +kernel
theorem dX12_window_40 : decode cX12_window 40 = .ok (.invokestatic 220, 3) := by decide +kernel
theorem dX12_window_43 : decode cX12_window 43 = .ok (.istore_n 3, 1) := by decide +kernel
theorem dX12_window_44 : decode cX12_window 44 = .ok (.iinc 4 1, 3) := by decide +kernel
theorem dX12_window_47 : decode cX12_window 47 = .ok (.goto (-42), 3) := by decide +kernel
theorem dX12_window_50 : decode cX12_window 50 = .ok (.iload_n 3, 1) := by decide +kernel
theorem dX12_window_51 : decode cX12_window 51 = .ok (.ireturn, 1) := by decide +kernel
def f_X12_window_5 (N : Nat) (R : Nat → Nat → Nat) : Nat → SI → Nat → Int32 → Int32 → Int32 → Int32 → Option (Int32 × SI)
  | 0, _, _, _, _, _, _ => none
  | n + 1, σ, x0, x1, x2, x3, x4 => bd (f_X12_charges N R σ x0 x1) (fun a1 σ1 => if a1 ≤ x4 then (some (x3, σ1)) else (if 0 ≤ x2 then (bd (f_X12_windowFrom N R σ1 x0 x1 (x2 * x4) x2) (fun a4 σ4 => f_X12_window_5 N R n σ4 x0 x1 x2 (if x3 < a4 then a4 else x3) (x4 + 1))) else (bd (f_X12_delayOf N R σ1 x0 x1 x4) (fun a5 σ5 => bd (f_X12_windowFrom N R σ5 x0 x1 a5 x2) (fun a6 σ6 => f_X12_window_5 N R n σ6 x0 x1 x2 (if x3 < a6 then a6 else x3) (x4 + 1))))))
def f_X12_window (N : Nat) (R : Nat → Nat → Nat) (σ : SI) (x0 : Nat) (x1 : Int32) (x2 : Int32) : Option (Int32 × SI) := f_X12_window_5 N R N σ x0 x1 x2 (0 : Int32) (0 : Int32)
set_option maxHeartbeats 4000000 in
set_option maxRecDepth 100000 in
theorem w_X12_window_5 {l : Launch} {g : GL} {p : Program} {e : Jvm.Env} {s : State} {m : MethodId} {args : Array Value} {below : List Frame} {meth : Method} {c : Code} {R : Nat → Nat → Nat} {L : Nat → Nat → Int64} {r : (Int32 × SI)} {N : Nat} (C : Cx l g p s m meth c cX12_window 5 RX12) (hr : meth.sig.returnType = (some .int)) (hSh : ShR R) : ∀ (n : Nat) (σ : SI) (x0 : Nat) (x1 : Int32) (x2 : Int32) (x3 : Int32) (x4 : Int32), f_X12_window_5 N R n σ x0 x1 x2 x3 x4 = some r → Ok 194 x0 12 → ∀ (H : Heap) (locs : List Loc) (ls : Array Slot), S2 g s σ R L H locs → lv_has ls 5 [(0, .ref (gb g + x0)), (1, .int x1), (2, .int x2), (3, .int x3), (4, .int x4)] → W p l e (rmd 4 0 0) s m args below meth c H locs 0 0 (MQ below (Qg g 194 (PI R L r)) args s 0 0 (gA g)) (F0 m 5 ls []) := by
  have hx := C.1
  have hb := C.2.1
  intro n
  induction n with
  | zero =>
    intro σ x0 x1 x2 x3 x4 h
    cases (show (none : Option (Int32 × SI)) = some r from h)
  | succ n ih =>
    intro σ x0 x1 x2 x3 x4 h hx0 H locs ls S hl
    rw [f_X12_window_5] at h
    refine lv_iload hx hb dX12_window_5 (lv_at hl 4 rfl) ?_
    refine lv_aload_n hx hb dX12_window_7 rfl (lv_at hl 0 rfl) ?_
    refine lv_iload_n hx hb dX12_window_8 rfl (lv_at hl 1 rfl) ?_
    obtain ⟨a1, σ1, hc1, h⟩ := bd_el h
    refine x_callVI C S KX12 hx0 (ok_X12_charges (L := L) hc1 hSh hx0) ⟨cd_X12_charges, ni_RX12, ml_RX12_202, in_X12_charges, sl_X12_charges⟩ ⟨by decide, by decide⟩ rfl ⟨by decide, by decide⟩ hl.1 rfl (Nat.le_of_ble_eq_true rfl) ⟨by decide, by decide⟩ dX12_window_9 (fun H locs S => ?_)
    refine lv_icmp_ge (tgt := 50) hx hb dX12_window_12 (by decide) (fun c2 => ?_) (fun c2 => ?_)
    · have h := it_p c2 h
      refine lv_iload_n hx hb dX12_window_50 rfl (lv_at hl 3 rfl) ?_
      exact x_iret C S hr h dX12_window_51
    · have h := it_n c2 h
      refine lv_iload_n hx hb dX12_window_15 rfl (lv_at hl 3 rfl) ?_
      refine lv_aload_n hx hb dX12_window_16 rfl (lv_at hl 0 rfl) ?_
      refine lv_iload_n hx hb dX12_window_17 rfl (lv_at hl 1 rfl) ?_
      refine lv_iload_n hx hb dX12_window_18 rfl (lv_at hl 2 rfl) ?_
      refine lv_if_ge (tgt := 32) hx hb dX12_window_19 (by decide) (fun c3 => ?_) (fun c3 => ?_)
      · have h := it_p c3 h
        refine lv_iload_n hx hb dX12_window_32 rfl (lv_at hl 2 rfl) ?_
        refine lv_iload hx hb dX12_window_33 (lv_at hl 4 rfl) ?_
        refine lv_imul hx hb dX12_window_35 ?_
        refine lv_iload_n hx hb dX12_window_36 rfl (lv_at hl 2 rfl) ?_
        obtain ⟨a4, σ4, hc4, h⟩ := bd_el h
        refine x_callVI C S KX12 hx0 (ok_X12_windowFrom (L := L) hc4 hSh hx0) ⟨cd_X12_windowFrom, ni_RX12, ml_RX12_223, in_X12_windowFrom, sl_X12_windowFrom⟩ ⟨by decide, by decide⟩ rfl ⟨by decide, by decide⟩ hl.1 rfl (Nat.le_of_ble_eq_true rfl) ⟨by decide, by decide⟩ dX12_window_37 (fun H locs S => ?_)
        refine x_max C hl.1 ⟨ml_RX12_220, st_math_max, ni_math, cd_math_max⟩ (Nat.le_of_ble_eq_true rfl) (Nat.le_of_ble_eq_true rfl) (Nat.le_of_ble_eq_true rfl) (Nat.le_of_ble_eq_true rfl) dX12_window_40 ?_
        refine lv_istore_n (lv' := [(3, .int (if x3 < a4 then a4 else x3)), (0, .ref (gb g + x0)), (1, .int x1), (2, .int x2), (4, .int x4)]) hx hb dX12_window_43 rfl hl (by decide) rfl (fun ls hl => ?_)
        refine lv_iinc (v := x4 + 1) (lv' := [(4, .int (x4 + 1)), (3, .int (if x3 < a4 then a4 else x3)), (0, .ref (gb g + x0)), (1, .int x1), (2, .int x2)]) hx hb dX12_window_44 hl (k := 4) rfl rfl (by decide) rfl (fun ls hl => ?_)
        refine lv_goto (tgt := 5) hx hb dX12_window_47 (by decide) ?_
        exact ih σ4 x0 x1 x2 (if x3 < a4 then a4 else x3) (x4 + 1) h hx0 H locs ls S (lv_sub hl [2, 3, 4, 1, 0] rfl)
      · have h := it_n c3 h
        refine lv_aload_n hx hb dX12_window_22 rfl (lv_at hl 0 rfl) ?_
        refine lv_iload_n hx hb dX12_window_23 rfl (lv_at hl 1 rfl) ?_
        refine lv_iload hx hb dX12_window_24 (lv_at hl 4 rfl) ?_
        obtain ⟨a5, σ5, hc5, h⟩ := bd_el h
        refine x_callVI C S KX12 hx0 (ok_X12_delayOf (L := L) hc5 hSh hx0) ⟨cd_X12_delayOf, ni_RX12, ml_RX12_212, in_X12_delayOf, sl_X12_delayOf⟩ ⟨by decide, by decide⟩ rfl ⟨by decide, by decide⟩ hl.1 rfl (Nat.le_of_ble_eq_true rfl) ⟨by decide, by decide⟩ dX12_window_26 (fun H locs S => ?_)
        refine lv_goto (tgt := 36) hx hb dX12_window_29 (by decide) ?_
        refine lv_iload_n hx hb dX12_window_36 rfl (lv_at hl 2 rfl) ?_
        obtain ⟨a6, σ6, hc6, h⟩ := bd_el h
        refine x_callVI C S KX12 hx0 (ok_X12_windowFrom (L := L) hc6 hSh hx0) ⟨cd_X12_windowFrom, ni_RX12, ml_RX12_223, in_X12_windowFrom, sl_X12_windowFrom⟩ ⟨by decide, by decide⟩ rfl ⟨by decide, by decide⟩ hl.1 rfl (Nat.le_of_ble_eq_true rfl) ⟨by decide, by decide⟩ dX12_window_37 (fun H locs S => ?_)
        refine x_max C hl.1 ⟨ml_RX12_220, st_math_max, ni_math, cd_math_max⟩ (Nat.le_of_ble_eq_true rfl) (Nat.le_of_ble_eq_true rfl) (Nat.le_of_ble_eq_true rfl) (Nat.le_of_ble_eq_true rfl) dX12_window_40 ?_
        refine lv_istore_n (lv' := [(3, .int (if x3 < a6 then a6 else x3)), (0, .ref (gb g + x0)), (1, .int x1), (2, .int x2), (4, .int x4)]) hx hb dX12_window_43 rfl hl (by decide) rfl (fun ls hl => ?_)
        refine lv_iinc (v := x4 + 1) (lv' := [(4, .int (x4 + 1)), (3, .int (if x3 < a6 then a6 else x3)), (0, .ref (gb g + x0)), (1, .int x1), (2, .int x2)]) hx hb dX12_window_44 hl (k := 4) rfl rfl (by decide) rfl (fun ls hl => ?_)
        refine lv_goto (tgt := 5) hx hb dX12_window_47 (by decide) ?_
        exact ih σ6 x0 x1 x2 (if x3 < a6 then a6 else x3) (x4 + 1) h hx0 H locs ls S (lv_sub hl [2, 3, 4, 1, 0] rfl)
set_option maxHeartbeats 4000000 in
set_option maxRecDepth 100000 in
theorem ok_X12_window {l : Launch} {g : GL} {R : Nat → Nat → Nat} {L : Nat → Nat → Int64} {N : Nat} {σ : SI} {x0 : Nat} {x1 : Int32} {x2 : Int32} {r : (Int32 × SI)} (h : f_X12_window N R σ x0 x1 x2 = some r) (hSh : ShR R) (hx0 : Ok 194 x0 12) : Ct l g 4 yX12_window cX12_window 5 (some .int) 194 194 0 0 [.ref (gb g + x0), .int x1, .int x2] (mkS σ R L) (PI R L r) := by
  refine Met.ofW (cc := cX12_window) (maxL := 5) (ret := (some .int)) (by decide) rfl ?_
  intro p e s m args below meth c s₁ B hml hv
  obtain ⟨rfl, hE, hLo, hWd⟩ := hv
  have hr : meth.sig.returnType = (some .int) := B.returns
  have C : Cx l g p s m meth c cX12_window 5 RX12 := ⟨B.exec, B.bytes, hml, findClass_of_methodNamed B.named, hE, hLo, B.notSynchronized⟩
  have S : S2 g s σ R L s.heap [] := ⟨hWd, va_S.rf⟩
  have hx := C.1
  have hb := C.2.1
  have hl := lv_entry ([.ref (gb g + x0), .int x1, .int x2]) (n := 5) (Nat.le_of_ble_eq_true rfl)
  rw [lg_entry_eq]
  generalize (lg_sl ([.ref (gb g + x0), .int x1, .int x2]) ++ List.replicate (5 - (lg_sl ([.ref (gb g + x0), .int x1, .int x2])).length) Slot.unset).toArray = ls at hl ⊢
  have hl : lv_has ls 5 [(0, .ref (gb g + x0)), (1, .int x1), (2, .int x2)] := hl
  generalize hH : s.heap = H at S ⊢
  generalize hlc : ([] : List Loc) = locs at S ⊢
  rw [f_X12_window] at h
  refine lv_iconst (v := (0 : Int32)) hx hb dX12_window_0 (by decide) ?_
  refine lv_istore_n (lv' := [(3, .int (0 : Int32)), (0, .ref (gb g + x0)), (1, .int x1), (2, .int x2)]) hx hb dX12_window_1 rfl hl (by decide) rfl (fun ls hl => ?_)
  refine lv_iconst (v := (0 : Int32)) hx hb dX12_window_2 (by decide) ?_
  refine lv_istore (lv' := [(4, .int (0 : Int32)), (3, .int (0 : Int32)), (0, .ref (gb g + x0)), (1, .int x1), (2, .int x2)]) hx hb dX12_window_3 hl (by decide) rfl (fun ls hl => ?_)
  exact w_X12_window_5 C hr hSh N σ x0 x1 x2 (0 : Int32) (0 : Int32) h hx0 H locs ls S (lv_sub hl [2, 3, 4, 1, 0] rfl)
theorem dX12_squared_0 : decode cX12_squared 0 = .ok (.iload_n 1, 1) := by decide +kernel
theorem dX12_squared_1 : decode cX12_squared 1 = .ok (.iload_n 1, 1) := by decide +kernel
theorem dX12_squared_2 : decode cX12_squared 2 = .ok (.imul, 1) := by decide +kernel
theorem dX12_squared_3 : decode cX12_squared 3 = .ok (.iload_n 2, 1) := by decide +kernel
theorem dX12_squared_4 : decode cX12_squared 4 = .ok (.iload_n 2, 1) := by decide +kernel
theorem dX12_squared_5 : decode cX12_squared 5 = .ok (.imul, 1) := by decide +kernel
theorem dX12_squared_6 : decode cX12_squared 6 = .ok (.iadd, 1) := by decide +kernel
theorem dX12_squared_7 : decode cX12_squared 7 = .ok (.ireturn, 1) := by decide +kernel
def f_X12_squared (N : Nat) (R : Nat → Nat → Nat) (σ : SI) (x0 : Nat) (x1 : Int32) (x2 : Int32) : Option (Int32 × SI) := some ((x1 * x1) + (x2 * x2), σ)
set_option maxHeartbeats 4000000 in
set_option maxRecDepth 100000 in
theorem ok_X12_squared {l : Launch} {g : GL} {R : Nat → Nat → Nat} {L : Nat → Nat → Int64} {N : Nat} {σ : SI} {x0 : Nat} {x1 : Int32} {x2 : Int32} {r : (Int32 × SI)} (h : f_X12_squared N R σ x0 x1 x2 = some r) (hSh : ShR R) (hx0 : Ok 194 x0 12) : Ct l g 1 yX12_squared cX12_squared 3 (some .int) 194 194 0 0 [.ref (gb g + x0), .int x1, .int x2] (mkS σ R L) (PI R L r) := by
  refine Met.ofW (cc := cX12_squared) (maxL := 3) (ret := (some .int)) (by decide) rfl ?_
  intro p e s m args below meth c s₁ B hml hv
  obtain ⟨rfl, hE, hLo, hWd⟩ := hv
  have hr : meth.sig.returnType = (some .int) := B.returns
  have C : Cx l g p s m meth c cX12_squared 3 RX12 := ⟨B.exec, B.bytes, hml, findClass_of_methodNamed B.named, hE, hLo, B.notSynchronized⟩
  have S : S2 g s σ R L s.heap [] := ⟨hWd, va_S.rf⟩
  have hx := C.1
  have hb := C.2.1
  have hl := lv_entry ([.ref (gb g + x0), .int x1, .int x2]) (n := 3) (Nat.le_of_ble_eq_true rfl)
  rw [lg_entry_eq]
  generalize (lg_sl ([.ref (gb g + x0), .int x1, .int x2]) ++ List.replicate (3 - (lg_sl ([.ref (gb g + x0), .int x1, .int x2])).length) Slot.unset).toArray = ls at hl ⊢
  have hl : lv_has ls 3 [(0, .ref (gb g + x0)), (1, .int x1), (2, .int x2)] := hl
  generalize hH : s.heap = H at S ⊢
  generalize hlc : ([] : List Loc) = locs at S ⊢
  rw [f_X12_squared] at h
  refine lv_iload_n hx hb dX12_squared_0 rfl (lv_at hl 1 rfl) ?_
  refine lv_iload_n hx hb dX12_squared_1 rfl (lv_at hl 1 rfl) ?_
  refine lv_imul hx hb dX12_squared_2 ?_
  refine lv_iload_n hx hb dX12_squared_3 rfl (lv_at hl 2 rfl) ?_
  refine lv_iload_n hx hb dX12_squared_4 rfl (lv_at hl 2 rfl) ?_
  refine lv_imul hx hb dX12_squared_5 ?_
  refine lv_iadd hx hb dX12_squared_6 ?_
  exact x_iret C S hr h dX12_squared_7
theorem dX12_farAway_0 : decode cX12_farAway 0 = .ok (.aload_n 0, 1) := by decide +kernel
theorem dX12_farAway_1 : decode cX12_farAway 1 = .ok (.aload_n 0, 1) := by decide +kernel
theorem dX12_farAway_2 : decode cX12_farAway 2 = .ok (.iload_n 2, 1) := by decide +kernel
theorem dX12_farAway_3 : decode cX12_farAway 3 = .ok (.bipush 6, 2) := by decide +kernel
theorem dX12_farAway_5 : decode cX12_farAway 5 = .ok (.invokevirtual 227, 3) := by decide +kernel
theorem dX12_farAway_8 : decode cX12_farAway 8 = .ok (.aload_n 0, 1) := by decide +kernel
theorem dX12_farAway_9 : decode cX12_farAway 9 = .ok (.iload_n 1, 1) := by decide +kernel
theorem dX12_farAway_10 : decode cX12_farAway 10 = .ok (.bipush 6, 2) := by decide +kernel
theorem dX12_farAway_12 : decode cX12_farAway 12 = .ok (.invokevirtual 192, 3) := by decide +kernel
theorem dX12_farAway_15 : decode cX12_farAway 15 = .ok (.isub, 1) := by decide +kernel
theorem dX12_farAway_16 : decode cX12_farAway 16 = .ok (.aload_n 0, 1) := by decide +kernel
theorem dX12_farAway_17 : decode cX12_farAway 17 = .ok (.iload_n 2, 1) := by decide +kernel
theorem dX12_farAway_18 : decode cX12_farAway 18 = .ok (.bipush 7, 2) := by decide +kernel
theorem dX12_farAway_20 : decode cX12_farAway 20 = .ok (.invokevirtual 227, 3) := by decide +kernel
theorem dX12_farAway_23 : decode cX12_farAway 23 = .ok (.aload_n 0, 1) := by decide +kernel
theorem dX12_farAway_24 : decode cX12_farAway 24 = .ok (.iload_n 1, 1) := by decide +kernel
theorem dX12_farAway_25 : decode cX12_farAway 25 = .ok (.bipush 7, 2) := by decide +kernel
theorem dX12_farAway_27 : decode cX12_farAway 27 = .ok (.invokevirtual 192, 3) := by decide +kernel
theorem dX12_farAway_30 : decode cX12_farAway 30 = .ok (.isub, 1) := by decide +kernel
theorem dX12_farAway_31 : decode cX12_farAway 31 = .ok (.invokevirtual 230, 3) := by decide +kernel
theorem dX12_farAway_34 : decode cX12_farAway 34 = .ok (.ireturn, 1) := by decide +kernel
def f_X12_farAway (N : Nat) (R : Nat → Nat → Nat) (σ : SI) (x0 : Nat) (x1 : Int32) (x2 : Int32) : Option (Int32 × SI) := bd (f_X12_ofNear N R σ x0 x2 (6 : Int32)) (fun a1 σ1 => bd (f_X12_ofBlast N R σ1 x0 x1 (6 : Int32)) (fun a2 σ2 => bd (f_X12_ofNear N R σ2 x0 x2 (7 : Int32)) (fun a3 σ3 => bd (f_X12_ofBlast N R σ3 x0 x1 (7 : Int32)) (fun a4 σ4 => bd (f_X12_squared N R σ4 x0 (a1 - a2) (a3 - a4)) (fun a5 σ5 => some (a5, σ5))))))
set_option maxHeartbeats 4000000 in
set_option maxRecDepth 100000 in
theorem ok_X12_farAway {l : Launch} {g : GL} {R : Nat → Nat → Nat} {L : Nat → Nat → Int64} {N : Nat} {σ : SI} {x0 : Nat} {x1 : Int32} {x2 : Int32} {r : (Int32 × SI)} (h : f_X12_farAway N R σ x0 x1 x2 = some r) (hSh : ShR R) (hx0 : Ok 194 x0 12) : Ct l g 2 yX12_farAway cX12_farAway 3 (some .int) 194 194 0 0 [.ref (gb g + x0), .int x1, .int x2] (mkS σ R L) (PI R L r) := by
  refine Met.ofW (cc := cX12_farAway) (maxL := 3) (ret := (some .int)) (by decide) rfl ?_
  intro p e s m args below meth c s₁ B hml hv
  obtain ⟨rfl, hE, hLo, hWd⟩ := hv
  have hr : meth.sig.returnType = (some .int) := B.returns
  have C : Cx l g p s m meth c cX12_farAway 3 RX12 := ⟨B.exec, B.bytes, hml, findClass_of_methodNamed B.named, hE, hLo, B.notSynchronized⟩
  have S : S2 g s σ R L s.heap [] := ⟨hWd, va_S.rf⟩
  have hx := C.1
  have hb := C.2.1
  have hl := lv_entry ([.ref (gb g + x0), .int x1, .int x2]) (n := 3) (Nat.le_of_ble_eq_true rfl)
  rw [lg_entry_eq]
  generalize (lg_sl ([.ref (gb g + x0), .int x1, .int x2]) ++ List.replicate (3 - (lg_sl ([.ref (gb g + x0), .int x1, .int x2])).length) Slot.unset).toArray = ls at hl ⊢
  have hl : lv_has ls 3 [(0, .ref (gb g + x0)), (1, .int x1), (2, .int x2)] := hl
  generalize hH : s.heap = H at S ⊢
  generalize hlc : ([] : List Loc) = locs at S ⊢
  rw [f_X12_farAway] at h
  refine lv_aload_n hx hb dX12_farAway_0 rfl (lv_at hl 0 rfl) ?_
  refine lv_aload_n hx hb dX12_farAway_1 rfl (lv_at hl 0 rfl) ?_
  refine lv_iload_n hx hb dX12_farAway_2 rfl (lv_at hl 2 rfl) ?_
  refine lv_bipush (v := (6 : Int32)) hx hb dX12_farAway_3 (by decide) ?_
  obtain ⟨a1, σ1, hc1, h⟩ := bd_el h
  refine x_callVI C S KX12 hx0 (ok_X12_ofNear (L := L) hc1 hSh hx0) ⟨cd_X12_ofNear, ni_RX12, ml_RX12_227, in_X12_ofNear, sl_X12_ofNear⟩ ⟨by decide, by decide⟩ rfl ⟨by decide, by decide⟩ hl.1 rfl (Nat.le_of_ble_eq_true rfl) ⟨by decide, by decide⟩ dX12_farAway_5 (fun H locs S => ?_)
  refine lv_aload_n hx hb dX12_farAway_8 rfl (lv_at hl 0 rfl) ?_
  refine lv_iload_n hx hb dX12_farAway_9 rfl (lv_at hl 1 rfl) ?_
  refine lv_bipush (v := (6 : Int32)) hx hb dX12_farAway_10 (by decide) ?_
  obtain ⟨a2, σ2, hc2, h⟩ := bd_el h
  refine x_callVI C S KX12 hx0 (ok_X12_ofBlast (L := L) hc2 hSh hx0) ⟨cd_X12_ofBlast, ni_RX12, ml_RX12_192, in_X12_ofBlast, sl_X12_ofBlast⟩ ⟨by decide, by decide⟩ rfl ⟨by decide, by decide⟩ hl.1 rfl (Nat.le_of_ble_eq_true rfl) ⟨by decide, by decide⟩ dX12_farAway_12 (fun H locs S => ?_)
  refine lv_isub hx hb dX12_farAway_15 ?_
  refine lv_aload_n hx hb dX12_farAway_16 rfl (lv_at hl 0 rfl) ?_
  refine lv_iload_n hx hb dX12_farAway_17 rfl (lv_at hl 2 rfl) ?_
  refine lv_bipush (v := (7 : Int32)) hx hb dX12_farAway_18 (by decide) ?_
  obtain ⟨a3, σ3, hc3, h⟩ := bd_el h
  refine x_callVI C S KX12 hx0 (ok_X12_ofNear (L := L) hc3 hSh hx0) ⟨cd_X12_ofNear, ni_RX12, ml_RX12_227, in_X12_ofNear, sl_X12_ofNear⟩ ⟨by decide, by decide⟩ rfl ⟨by decide, by decide⟩ hl.1 rfl (Nat.le_of_ble_eq_true rfl) ⟨by decide, by decide⟩ dX12_farAway_20 (fun H locs S => ?_)
  refine lv_aload_n hx hb dX12_farAway_23 rfl (lv_at hl 0 rfl) ?_
  refine lv_iload_n hx hb dX12_farAway_24 rfl (lv_at hl 1 rfl) ?_
  refine lv_bipush (v := (7 : Int32)) hx hb dX12_farAway_25 (by decide) ?_
  obtain ⟨a4, σ4, hc4, h⟩ := bd_el h
  refine x_callVI C S KX12 hx0 (ok_X12_ofBlast (L := L) hc4 hSh hx0) ⟨cd_X12_ofBlast, ni_RX12, ml_RX12_192, in_X12_ofBlast, sl_X12_ofBlast⟩ ⟨by decide, by decide⟩ rfl ⟨by decide, by decide⟩ hl.1 rfl (Nat.le_of_ble_eq_true rfl) ⟨by decide, by decide⟩ dX12_farAway_27 (fun H locs S => ?_)
  refine lv_isub hx hb dX12_farAway_30 ?_
  obtain ⟨a5, σ5, hc5, h⟩ := bd_el h
  refine x_callVI C S KX12 hx0 (ok_X12_squared (L := L) hc5 hSh hx0) ⟨cd_X12_squared, ni_RX12, ml_RX12_230, in_X12_squared, sl_X12_squared⟩ ⟨by decide, by decide⟩ rfl ⟨by decide, by decide⟩ hl.1 rfl (Nat.le_of_ble_eq_true rfl) ⟨by decide, by decide⟩ dX12_farAway_31 (fun H locs S => ?_)
  exact x_iret C S hr h dX12_farAway_34
theorem dX12_shakes_0 : decode cX12_shakes 0 = .ok (.sipush 1000, 3) := by decide +kernel
theorem dX12_shakes_3 : decode cX12_shakes 3 = .ok (.aload_n 0, 1) := by decide +kernel
theorem dX12_shakes_4 : decode cX12_shakes 4 = .ok (.iload_n 1, 1) := by decide +kernel
theorem dX12_shakes_5 : decode cX12_shakes 5 = .ok (.iload_n 3, 1) := by decide +kernel
theorem dX12_shakes_6 : decode cX12_shakes 6 = .ok (.invokevirtual 233, 3) := by decide +kernel
theorem dX12_shakes_9 : decode cX12_shakes 9 = .ok (.imul, 1) := by decide +kernel
theorem dX12_shakes_10 : decode cX12_shakes 10 = .ok (.aload_n 0, 1) := by decide +kernel
theorem dX12_shakes_11 : decode cX12_shakes 11 = .ok (.iload_n 1, 1) := by decide +kernel
theorem dX12_shakes_12 : decode cX12_shakes 12 = .ok (.iload_n 2, 1) := by decide +kernel
theorem dX12_shakes_13 : decode cX12_shakes 13 = .ok (.invokevirtual 236, 3) := by decide +kernel
theorem dX12_shakes_16 : decode cX12_shakes 16 = .ok (.iconst 1, 1) := by decide +kernel
theorem dX12_shakes_17 : decode cX12_shakes 17 = .ok (.iadd, 1) := by decide +kernel
theorem dX12_shakes_18 : decode cX12_shakes 18 = .ok (.idiv, 1) := by decide +kernel
theorem dX12_shakes_19 : decode cX12_shakes 19 = .ok (.ireturn, 1) := by decide +kernel
def f_X12_shakes (N : Nat) (R : Nat → Nat → Nat) (σ : SI) (x0 : Nat) (x1 : Int32) (x2 : Int32) (x3 : Int32) : Option (Int32 × SI) := bd (f_X12_window N R σ x0 x1 x3) (fun a1 σ1 => bd (f_X12_farAway N R σ1 x0 x1 x2) (fun a2 σ2 => cd (a2 + (1 : Int32)) (some (((1000 : Int32) * a1) / (a2 + (1 : Int32)), σ2))))
set_option maxHeartbeats 4000000 in
set_option maxRecDepth 100000 in
theorem ok_X12_shakes {l : Launch} {g : GL} {R : Nat → Nat → Nat} {L : Nat → Nat → Int64} {N : Nat} {σ : SI} {x0 : Nat} {x1 : Int32} {x2 : Int32} {x3 : Int32} {r : (Int32 × SI)} (h : f_X12_shakes N R σ x0 x1 x2 x3 = some r) (hSh : ShR R) (hx0 : Ok 194 x0 12) : Ct l g 5 yX12_shakes cX12_shakes 4 (some .int) 194 194 0 0 [.ref (gb g + x0), .int x1, .int x2, .int x3] (mkS σ R L) (PI R L r) := by
  refine Met.ofW (cc := cX12_shakes) (maxL := 4) (ret := (some .int)) (by decide) rfl ?_
  intro p e s m args below meth c s₁ B hml hv
  obtain ⟨rfl, hE, hLo, hWd⟩ := hv
  have hr : meth.sig.returnType = (some .int) := B.returns
  have C : Cx l g p s m meth c cX12_shakes 4 RX12 := ⟨B.exec, B.bytes, hml, findClass_of_methodNamed B.named, hE, hLo, B.notSynchronized⟩
  have S : S2 g s σ R L s.heap [] := ⟨hWd, va_S.rf⟩
  have hx := C.1
  have hb := C.2.1
  have hl := lv_entry ([.ref (gb g + x0), .int x1, .int x2, .int x3]) (n := 4) (Nat.le_of_ble_eq_true rfl)
  rw [lg_entry_eq]
  generalize (lg_sl ([.ref (gb g + x0), .int x1, .int x2, .int x3]) ++ List.replicate (4 - (lg_sl ([.ref (gb g + x0), .int x1, .int x2, .int x3])).length) Slot.unset).toArray = ls at hl ⊢
  have hl : lv_has ls 4 [(0, .ref (gb g + x0)), (1, .int x1), (2, .int x2), (3, .int x3)] := hl
  generalize hH : s.heap = H at S ⊢
  generalize hlc : ([] : List Loc) = locs at S ⊢
  rw [f_X12_shakes] at h
  refine lv_sipush (v := (1000 : Int32)) hx hb dX12_shakes_0 (by decide) ?_
  refine lv_aload_n hx hb dX12_shakes_3 rfl (lv_at hl 0 rfl) ?_
  refine lv_iload_n hx hb dX12_shakes_4 rfl (lv_at hl 1 rfl) ?_
  refine lv_iload_n hx hb dX12_shakes_5 rfl (lv_at hl 3 rfl) ?_
  obtain ⟨a1, σ1, hc1, h⟩ := bd_el h
  refine x_callVI C S KX12 hx0 (ok_X12_window (L := L) hc1 hSh hx0) ⟨cd_X12_window, ni_RX12, ml_RX12_233, in_X12_window, sl_X12_window⟩ ⟨by decide, by decide⟩ rfl ⟨by decide, by decide⟩ hl.1 rfl (Nat.le_of_ble_eq_true rfl) ⟨by decide, by decide⟩ dX12_shakes_6 (fun H locs S => ?_)
  refine lv_imul hx hb dX12_shakes_9 ?_
  refine lv_aload_n hx hb dX12_shakes_10 rfl (lv_at hl 0 rfl) ?_
  refine lv_iload_n hx hb dX12_shakes_11 rfl (lv_at hl 1 rfl) ?_
  refine lv_iload_n hx hb dX12_shakes_12 rfl (lv_at hl 2 rfl) ?_
  obtain ⟨a2, σ2, hc2, h⟩ := bd_el h
  refine x_callVI C S KX12 hx0 (ok_X12_farAway (L := L) hc2 hSh hx0) ⟨cd_X12_farAway, ni_RX12, ml_RX12_236, in_X12_farAway, sl_X12_farAway⟩ ⟨by decide, by decide⟩ rfl ⟨by decide, by decide⟩ hl.1 rfl (Nat.le_of_ble_eq_true rfl) ⟨by decide, by decide⟩ dX12_shakes_13 (fun H locs S => ?_)
  refine lv_iconst (v := (1 : Int32)) hx hb dX12_shakes_16 (by decide) ?_
  refine lv_iadd hx hb dX12_shakes_17 ?_
  obtain ⟨hz3, h⟩ := cd_el h
  refine lv_idiv hx hb dX12_shakes_18 hz3 ?_
  exact x_iret C S hr h dX12_shakes_19
theorem dX12_isTooStrong_0 : decode cX12_isTooStrong 0 = .ok (.aload_n 0, 1) := by decide +kernel
theorem dX12_isTooStrong_1 : decode cX12_isTooStrong 1 = .ok (.iload_n 1, 1) := by decide +kernel
theorem dX12_isTooStrong_2 : decode cX12_isTooStrong 2 = .ok (.iload_n 2, 1) := by decide +kernel
theorem dX12_isTooStrong_3 : decode cX12_isTooStrong 3 = .ok (.iconst (-1), 1) := by decide +kernel
theorem dX12_isTooStrong_4 : decode cX12_isTooStrong 4 = .ok (.invokevirtual 239, 3) := by decide +kernel
theorem dX12_isTooStrong_7 : decode cX12_isTooStrong 7 = .ok (.aload_n 0, 1) := by decide +kernel
theorem dX12_isTooStrong_8 : decode cX12_isTooStrong 8 = .ok (.iload_n 2, 1) := by decide +kernel
theorem dX12_isTooStrong_9 : decode cX12_isTooStrong 9 = .ok (.bipush 8, 2) := by decide +kernel
theorem dX12_isTooStrong_11 : decode cX12_isTooStrong 11 = .ok (.invokevirtual 227, 3) := by decide +kernel
theorem dX12_isTooStrong_14 : decode cX12_isTooStrong 14 = .ok (.if_icmp .le 7, 3) := by decide +kernel
theorem dX12_isTooStrong_17 : decode cX12_isTooStrong 17 = .ok (.iconst 1, 1) := by decide +kernel
theorem dX12_isTooStrong_18 : decode cX12_isTooStrong 18 = .ok (.goto 4, 3) := by decide +kernel
theorem dX12_isTooStrong_21 : decode cX12_isTooStrong 21 = .ok (.iconst 0, 1) := by decide +kernel
theorem dX12_isTooStrong_22 : decode cX12_isTooStrong 22 = .ok (.ireturn, 1) := by decide +kernel
def f_X12_isTooStrong (N : Nat) (R : Nat → Nat → Nat) (σ : SI) (x0 : Nat) (x1 : Int32) (x2 : Int32) : Option (Int32 × SI) := bd (f_X12_shakes N R σ x0 x1 x2 (-1 : Int32)) (fun a1 σ1 => bd (f_X12_ofNear N R σ1 x0 x2 (8 : Int32)) (fun a2 σ2 => if a1 ≤ a2 then (some ((0 : Int32), σ2)) else (some ((1 : Int32), σ2))))
set_option maxHeartbeats 4000000 in
set_option maxRecDepth 100000 in
theorem ok_X12_isTooStrong {l : Launch} {g : GL} {R : Nat → Nat → Nat} {L : Nat → Nat → Int64} {N : Nat} {σ : SI} {x0 : Nat} {x1 : Int32} {x2 : Int32} {r : (Int32 × SI)} (h : f_X12_isTooStrong N R σ x0 x1 x2 = some r) (hSh : ShR R) (hx0 : Ok 194 x0 12) : Ct l g 6 yX12_isTooStrong cX12_isTooStrong 3 (some .boolean) 194 194 0 0 [.ref (gb g + x0), .int x1, .int x2] (mkS σ R L) (PI R L r) := by
  refine Met.ofW (cc := cX12_isTooStrong) (maxL := 3) (ret := (some .boolean)) (by decide) rfl ?_
  intro p e s m args below meth c s₁ B hml hv
  obtain ⟨rfl, hE, hLo, hWd⟩ := hv
  have hr : meth.sig.returnType = (some .boolean) := B.returns
  have C : Cx l g p s m meth c cX12_isTooStrong 3 RX12 := ⟨B.exec, B.bytes, hml, findClass_of_methodNamed B.named, hE, hLo, B.notSynchronized⟩
  have S : S2 g s σ R L s.heap [] := ⟨hWd, va_S.rf⟩
  have hx := C.1
  have hb := C.2.1
  have hl := lv_entry ([.ref (gb g + x0), .int x1, .int x2]) (n := 3) (Nat.le_of_ble_eq_true rfl)
  rw [lg_entry_eq]
  generalize (lg_sl ([.ref (gb g + x0), .int x1, .int x2]) ++ List.replicate (3 - (lg_sl ([.ref (gb g + x0), .int x1, .int x2])).length) Slot.unset).toArray = ls at hl ⊢
  have hl : lv_has ls 3 [(0, .ref (gb g + x0)), (1, .int x1), (2, .int x2)] := hl
  generalize hH : s.heap = H at S ⊢
  generalize hlc : ([] : List Loc) = locs at S ⊢
  rw [f_X12_isTooStrong] at h
  refine lv_aload_n hx hb dX12_isTooStrong_0 rfl (lv_at hl 0 rfl) ?_
  refine lv_iload_n hx hb dX12_isTooStrong_1 rfl (lv_at hl 1 rfl) ?_
  refine lv_iload_n hx hb dX12_isTooStrong_2 rfl (lv_at hl 2 rfl) ?_
  refine lv_iconst (v := (-1 : Int32)) hx hb dX12_isTooStrong_3 (by decide) ?_
  obtain ⟨a1, σ1, hc1, h⟩ := bd_el h
  refine x_callVI C S KX12 hx0 (ok_X12_shakes (L := L) hc1 hSh hx0) ⟨cd_X12_shakes, ni_RX12, ml_RX12_239, in_X12_shakes, sl_X12_shakes⟩ ⟨by decide, by decide⟩ rfl ⟨by decide, by decide⟩ hl.1 rfl (Nat.le_of_ble_eq_true rfl) ⟨by decide, by decide⟩ dX12_isTooStrong_4 (fun H locs S => ?_)
  refine lv_aload_n hx hb dX12_isTooStrong_7 rfl (lv_at hl 0 rfl) ?_
  refine lv_iload_n hx hb dX12_isTooStrong_8 rfl (lv_at hl 2 rfl) ?_
  refine lv_bipush (v := (8 : Int32)) hx hb dX12_isTooStrong_9 (by decide) ?_
  obtain ⟨a2, σ2, hc2, h⟩ := bd_el h
  refine x_callVI C S KX12 hx0 (ok_X12_ofNear (L := L) hc2 hSh hx0) ⟨cd_X12_ofNear, ni_RX12, ml_RX12_227, in_X12_ofNear, sl_X12_ofNear⟩ ⟨by decide, by decide⟩ rfl ⟨by decide, by decide⟩ hl.1 rfl (Nat.le_of_ble_eq_true rfl) ⟨by decide, by decide⟩ dX12_isTooStrong_11 (fun H locs S => ?_)
  refine lv_icmp_le (tgt := 21) hx hb dX12_isTooStrong_14 (by decide) (fun c3 => ?_) (fun c3 => ?_)
  · have h := it_p c3 h
    refine lv_iconst (v := (0 : Int32)) hx hb dX12_isTooStrong_21 (by decide) ?_
    exact x_zret C S hr (by decide) h dX12_isTooStrong_22
  · have h := it_n c3 h
    refine lv_iconst (v := (1 : Int32)) hx hb dX12_isTooStrong_17 (by decide) ?_
    refine lv_goto (tgt := 22) hx hb dX12_isTooStrong_18 (by decide) ?_
    exact x_zret C S hr (by decide) h dX12_isTooStrong_22
theorem dX12_windowSize_0 : decode cX12_windowSize 0 = .ok (.aload_n 0, 1) := by decide +kernel
theorem dX12_windowSize_1 : decode cX12_windowSize 1 = .ok (.iconst 0, 1) := by decide +kernel
theorem dX12_windowSize_2 : decode cX12_windowSize 2 = .ok (.putfield 3, 3) := by decide +kernel
theorem dX12_windowSize_5 : decode cX12_windowSize 5 = .ok (.aload_n 0, 1) := by decide +kernel
theorem dX12_windowSize_6 : decode cX12_windowSize 6 = .ok (.iload_n 1, 1) := by decide +kernel
theorem dX12_windowSize_7 : decode cX12_windowSize 7 = .ok (.invokevirtual 198, 3) := by decide +kernel
theorem dX12_windowSize_10 : decode cX12_windowSize 10 = .ok (.ifCond .eq 7, 3) := by decide +kernel
theorem dX12_windowSize_13 : decode cX12_windowSize 13 = .ok (.iconst 0, 1) := by decide +kernel
theorem dX12_windowSize_14 : decode cX12_windowSize 14 = .ok (.goto 9, 3) := by decide +kernel
theorem dX12_windowSize_17 : decode cX12_windowSize 17 = .ok (.aload_n 0, 1) := by decide +kernel
theorem dX12_windowSize_18 : decode cX12_windowSize 18 = .ok (.iload_n 1, 1) := by decide +kernel
theorem dX12_windowSize_19 : decode cX12_windowSize 19 = .ok (.iconst (-1), 1) := by decide +kernel
theorem dX12_windowSize_20 : decode cX12_windowSize 20 = .ok (.invokevirtual 233, 3) := by decide +kernel
theorem dX12_windowSize_23 : decode cX12_windowSize 23 = .ok (.ireturn, 1) := by decide +kernel
def f_X12_windowSize (N : Nat) (R : Nat → Nat → Nat) (σ : SI) (x0 : Nat) (x1 : Int32) : Option (Int32 × SI) := sq (up σ x0 0 (0 : Int32)) (fun σ1 => bd (f_X12_noBlast N R σ1 x0 x1) (fun a2 σ2 => if a2 = 0 then (bd (f_X12_window N R σ2 x0 x1 (-1 : Int32)) (fun a4 σ4 => some (a4, σ4))) else (some ((0 : Int32), σ2))))
set_option maxHeartbeats 4000000 in
set_option maxRecDepth 100000 in
theorem ok_X12_windowSize {l : Launch} {g : GL} {R : Nat → Nat → Nat} {L : Nat → Nat → Int64} {N : Nat} {σ : SI} {x0 : Nat} {x1 : Int32} {r : (Int32 × SI)} (h : f_X12_windowSize N R σ x0 x1 = some r) (hSh : ShR R) (hx0 : Ok 194 x0 12) : Ct l g 5 yX12_windowSize cX12_windowSize 2 (some .int) 194 194 0 0 [.ref (gb g + x0), .int x1] (mkS σ R L) (PI R L r) := by
  refine Met.ofW (cc := cX12_windowSize) (maxL := 2) (ret := (some .int)) (by decide) rfl ?_
  intro p e s m args below meth c s₁ B hml hv
  obtain ⟨rfl, hE, hLo, hWd⟩ := hv
  have hr : meth.sig.returnType = (some .int) := B.returns
  have C : Cx l g p s m meth c cX12_windowSize 2 RX12 := ⟨B.exec, B.bytes, hml, findClass_of_methodNamed B.named, hE, hLo, B.notSynchronized⟩
  have S : S2 g s σ R L s.heap [] := ⟨hWd, va_S.rf⟩
  have hx := C.1
  have hb := C.2.1
  have hl := lv_entry ([.ref (gb g + x0), .int x1]) (n := 2) (Nat.le_of_ble_eq_true rfl)
  rw [lg_entry_eq]
  generalize (lg_sl ([.ref (gb g + x0), .int x1]) ++ List.replicate (2 - (lg_sl ([.ref (gb g + x0), .int x1])).length) Slot.unset).toArray = ls at hl ⊢
  have hl : lv_has ls 2 [(0, .ref (gb g + x0)), (1, .int x1)] := hl
  generalize hH : s.heap = H at S ⊢
  generalize hlc : ([] : List Loc) = locs at S ⊢
  rw [f_X12_windowSize] at h
  refine lv_aload_n hx hb dX12_windowSize_0 rfl (lv_at hl 0 rfl) ?_
  refine lv_iconst (v := (0 : Int32)) hx hb dX12_windowSize_1 (by decide) ?_
  obtain ⟨σ1, hs1, h⟩ := sq_el h
  refine x_putI C S KX12 hx0 0 (by decide) rfl rfl rfl ⟨rfl, rfl⟩ fl_RX12_3 dX12_windowSize_2 hs1 (fun H locs S => ?_)
  refine lv_aload_n hx hb dX12_windowSize_5 rfl (lv_at hl 0 rfl) ?_
  refine lv_iload_n hx hb dX12_windowSize_6 rfl (lv_at hl 1 rfl) ?_
  obtain ⟨a2, σ2, hc2, h⟩ := bd_el h
  refine x_callVI C S KX12 hx0 (ok_X12_noBlast (L := L) hc2 hSh hx0) ⟨cd_X12_noBlast, ni_RX12, ml_RX12_198, in_X12_noBlast, sl_X12_noBlast⟩ ⟨by decide, by decide⟩ rfl ⟨by decide, by decide⟩ hl.1 rfl (Nat.le_of_ble_eq_true rfl) ⟨by decide, by decide⟩ dX12_windowSize_7 (fun H locs S => ?_)
  refine lv_if_eq (tgt := 17) hx hb dX12_windowSize_10 (by decide) (fun c3 => ?_) (fun c3 => ?_)
  · have h := it_p c3 h
    refine lv_aload_n hx hb dX12_windowSize_17 rfl (lv_at hl 0 rfl) ?_
    refine lv_iload_n hx hb dX12_windowSize_18 rfl (lv_at hl 1 rfl) ?_
    refine lv_iconst (v := (-1 : Int32)) hx hb dX12_windowSize_19 (by decide) ?_
    obtain ⟨a4, σ4, hc4, h⟩ := bd_el h
    refine x_callVI C S KX12 hx0 (ok_X12_window (L := L) hc4 hSh hx0) ⟨cd_X12_window, ni_RX12, ml_RX12_233, in_X12_window, sl_X12_window⟩ ⟨by decide, by decide⟩ rfl ⟨by decide, by decide⟩ hl.1 rfl (Nat.le_of_ble_eq_true rfl) ⟨by decide, by decide⟩ dX12_windowSize_20 (fun H locs S => ?_)
    exact x_iret C S hr h dX12_windowSize_23
  · have h := it_n c3 h
    refine lv_iconst (v := (0 : Int32)) hx hb dX12_windowSize_13 (by decide) ?_
    refine lv_goto (tgt := 23) hx hb dX12_windowSize_14 (by decide) ?_
    exact x_iret C S hr h dX12_windowSize_23
