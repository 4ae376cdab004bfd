theorem dX10_takeName_0 : decode cX10_takeName 0 = .ok (.aload_n 0, 1) := by decide +kernel
theorem dX10_takeName_1 : decode cX10_takeName 1 = .ok (.invokevirtual 28, 3) := by decide +kernel
theorem dX10_takeName_4 : decode cX10_takeName 4 = .ok (.aload_n 0, 1) := by decide +kernel
theorem dX10_takeName_5 : decode cX10_takeName 5 = .ok (.bipush 97, 2) := by decide +kernel
theorem dX10_takeName_7 : decode cX10_takeName 7 = .ok (.bipush 122, 2) := by decide +kernel
theorem dX10_takeName_9 : decode cX10_takeName 9 = .ok (.invokevirtual 31, 3) := by decide +kernel
theorem dX10_takeName_12 : decode cX10_takeName 12 = .ok (.istore_n 3, 1) := by decide +kernel
theorem dX10_takeName_13 : decode cX10_takeName 13 = .ok (.iload_n 3, 1) := by decide +kernel
theorem dX10_takeName_14 : decode cX10_takeName 14 = .ok (.aload_n 0, 1) := by decide +kernel
theorem dX10_takeName_15 : decode cX10_takeName 15 = .ok (.getfield 22, 3) := by decide +kernel
theorem dX10_takeName_18 : decode cX10_takeName 18 = .ok (.if_icmp .eq 14, 3) := by decide +kernel
theorem dX10_takeName_21 : decode cX10_takeName 21 = .ok (.iload_n 3, 1) := by decide +kernel
theorem dX10_takeName_22 : decode cX10_takeName 22 = .ok (.aload_n 0, 1) := by decide +kernel
theorem dX10_takeName_23 : decode cX10_takeName 23 = .ok (.getfield 22, 3) := by decide +kernel
theorem dX10_takeName_26 : decode cX10_takeName 26 = .ok (.isub, 1) := by decide +kernel
theorem dX10_takeName_27 : decode cX10_takeName 27 = .ok (.bipush 6, 2) := by decide +kernel
theorem dX10_takeName_29 : decode cX10_takeName 29 = .ok (.if_icmp .le 14, 3) := by decide +kernel
theorem dX10_takeName_32 : decode cX10_takeName 32 = .ok (.aload_n 0, 1) := by decide +kernel
theorem dX10_takeName_33 : decode cX10_takeName 33 = .ok (.aload_n 0, 1) := by decide +kernel
theorem dX10_takeName_34 : decode cX10_takeName 34 = .ok (.getfield 22, 3) := by decide +kernel
theorem dX10_takeName_37 : decode cX10_takeName 37 = .ok (.iconst 1, 1) := by decide +kernel
theorem dX10_takeName_38 : decode cX10_takeName 38 = .ok (.invokevirtual 35, 3) := by decide +kernel
theorem dX10_takeName_41 : decode cX10_takeName 41 = .ok (.iconst (-1), 1) := by decide +kernel
theorem dX10_takeName_42 : decode cX10_takeName 42 = .ok (.ireturn, 1) := by decide +kernel
theorem dX10_takeName_43 : decode cX10_takeName 43 = .ok (.aload_n 0, 1) := by decide +kernel
theorem dX10_takeName_44 : decode cX10_takeName 44 = .ok (.iload_n 3, 1) := by decide +kernel
theorem dX10_takeName_45 : decode cX10_takeName 45 = .ok (.invokevirtual 48, 3) := by decide +kernel
theorem dX10_takeName_48 : decode cX10_takeName 48 = .ok (.istore 4, 2) := by decide +kernel
theorem dX10_takeName_50 : decode cX10_takeName 50 = .ok (.iconst 0, 1) := by decide +kernel
theorem dX10_takeName_51 : decode cX10_takeName 51 = .ok (.istore 5, 2) := by decide +kernel
theorem dX10_takeName_53 : decode cX10_takeName 53 = .ok (.iload 5, 2) := by decide +kernel
theorem dX10_takeName_55 : decode cX10_takeName 55 = .ok (.iload_n 2, 1) := by decide +kernel
theorem dX10_takeName_56 : decode cX10_takeName 56 = .ok (.if_icmp .ge 29, 3) := by decide +kernel
theorem dX10_takeName_59 : decode cX10_takeName 59 = .ok (.aload_n 1, 1) := by decide +kernel
theorem dX10_takeName_60 : decode cX10_takeName 60 = .ok (.iload 5, 2) := by decide +kernel
theorem dX10_takeName_62 : decode cX10_takeName 62 = .ok (.iaload, 1) := by decide +kernel
theorem dX10_takeName_63 : decode cX10_takeName 63 = .ok (.iload 4, 2) := by decide +kernel
theorem dX10_takeName_65 : decode cX10_takeName 65 = .ok (.if_icmp .ne 14, 3) := by decide +kernel
theorem dX10_takeName_68 : decode cX10_takeName 68 = .ok (.aload_n 0, 1) := by decide +kernel
theorem dX10_takeName_69 : decode cX10_takeName 69 = .ok (.aload_n 0, 1) := by decide +kernel
theorem dX10_takeName_70 : decode cX10_takeName 70 = .ok (.getfield 22, 3) := by decide +kernel
theorem dX10_takeName_73 : decode cX10_takeName 73 = .ok (.iconst 3, 1) := by decide +kernel
theorem dX10_takeName_74 : decode cX10_takeName 74 = .ok (.invokevirtual 35, 3) := by decide +kernel
theorem dX10_takeName_77 : decode cX10_takeName 77 = .ok (.iconst (-1), 1) := by decide +kernel
theorem dX10_takeName_78 : decode cX10_takeName 78 = .ok (.ireturn, 1) := by decide +kernel
theorem dX10_takeName_79 : decode cX10_takeName 79 = .ok (.iinc 5 1, 3) := by decide +kernel
theorem dX10_takeName_82 : decode cX10_takeName 82 = .ok (.goto (-29), 3) := by decide +kernel
theorem dX10_takeName_85 : decode cX10_takeName 85 = .ok (.aload_n 0, 1) := by decide +kernel
theorem dX10_takeName_86 : decode cX10_takeName 86 = .ok (.iload_n 3, 1) := by decide +kernel
theorem dX10_takeName_87 : decode cX10_takeName 87 = .ok (.putfield 22, 3) := by decide +kernel
theorem dX10_takeName_90 : decode cX10_takeName 90 = .ok (.iload 4, 2) := by decide +kernel
theorem dX10_takeName_92 : decode cX10_takeName 92 = .ok (.ireturn, 1) := by decide +kernel
def f_X10_takeName_32 (N : Nat) (R : Nat → Nat → Nat) (q1 : Nat) (σ : SI) (x0 : Nat) : Option (Int32 × SI) := bd (f_X10_fail N R σ x0 (σ x0 2) (1 : Int32)) (fun _ σ4 => some ((-1 : Int32), σ4))
def f_X10_takeName_53 (N : Nat) (R : Nat → Nat → Nat) (q1 : Nat) : Nat → SI → Nat → Nat → Int32 → Int32 → Int32 → Int32 → Option (Int32 × SI)
  | 0, _, _, _, _, _, _, _ => none
  | n + 1, σ, x0, x1, x2, x3, x4, x5 => if x2 ≤ x5 then (sq (up σ x0 2 x3) (fun σ8 => some (x4, σ8))) else (ck x5 q1 (if (σ x1 x5.toNatClampNeg) = x4 then (bd (f_X10_fail N R σ x0 (σ x0 2) (3 : Int32)) (fun _ σ11 => some ((-1 : Int32), σ11))) else (f_X10_takeName_53 N R q1 n σ x0 x1 x2 x3 x4 (x5 + 1))))
def f_X10_takeName (N : Nat) (R : Nat → Nat → Nat) (q1 : Nat) (σ : SI) (x0 : Nat) (x1 : Nat) (x2 : Int32) : Option (Int32 × SI) := bd (f_X10_skipSpaces N R σ x0) (fun _ σ1 => bd (f_X10_endOfRun N R σ1 x0 (97 : Int32) (122 : Int32)) (fun a2 σ2 => if a2 = (σ2 x0 2) then (f_X10_takeName_32 N R q1 σ2 x0) else (if (a2 - (σ2 x0 2)) ≤ (6 : Int32) then (bd (f_X10_nameUpTo N R σ2 x0 a2) (fun a6 σ6 => f_X10_takeName_53 N R q1 N σ6 x0 x1 x2 a2 a6 (0 : Int32))) else (f_X10_takeName_32 N R q1 σ2 x0))))
set_option maxHeartbeats 4000000 in
set_option maxRecDepth 100000 in
theorem w_X10_takeName_32 {l : Launch} {g : GL} {p : Program} {e : Jvm.Env} {s : State} {m : MethodId} {args : Array Value} {below : List Frame} {meth : Method} {c : Code} {q1 : Nat} {R : Nat → Nat → Nat} {L : Nat → Nat → Int64} {r : (Int32 × SI)} {N : Nat} (C : Cx l g p s m meth c cX10_takeName 6 RX10) (hr : meth.sig.returnType = (some .int)) (hSh : ShR R) (hq1 : q1 < 10000) : ∀ (σ : SI) (x0 : Nat), f_X10_takeName_32 N R q1 σ x0 = some r → Ok 202 x0 10 → ∀ (H : Heap) (locs : List Loc) (ls : Array Slot), S2 g s σ R L H locs → lv_has ls 6 [(0, .ref (ga g x0))] → W p l e (rmd 2 0 0) s m args below meth c H locs 0 0 (MQ below (Qg g 202 (PI R L r)) args s 0 0 (gA g)) (F0 m 32 ls []) := by
  have hx := C.1
  have hb := C.2.1
  intro σ x0 h hx0 H locs ls S hl
  rw [f_X10_takeName_32] at h
  refine lv_aload_n hx hb dX10_takeName_32 rfl (lv_at hl 0 rfl) ?_
  refine lv_aload_n hx hb dX10_takeName_33 rfl (lv_at hl 0 rfl) ?_
  refine x_getI C S KX10 hx0 2 (by decide) rfl rfl fl_RX10_22 dX10_takeName_34 ?_
  refine lv_iconst (v := (1 : Int32)) hx hb dX10_takeName_37 (by decide) ?_
  obtain ⟨a4, σ4, hc4, h⟩ := bd_el h
  refine x_callVV C S KX10 hx0 (ok_X10_fail (L := L) hc4 hSh hx0) ⟨cd_X10_fail, ni_RX10, ml_RX10_35, in_X10_fail, sl_X10_fail⟩ ⟨by decide, by decide⟩ rfl (rm_ok (by decide) (by decide)) hl.1 rfl (Nat.le_of_ble_eq_true rfl) ⟨by decide, by decide⟩ dX10_takeName_38 (fun H locs S => ?_)
  refine lv_iconst (v := (-1 : Int32)) hx hb dX10_takeName_41 (by decide) ?_
  exact x_iret C S hr h dX10_takeName_42
set_option maxHeartbeats 4000000 in
set_option maxRecDepth 100000 in
theorem w_X10_takeName_53 {l : Launch} {g : GL} {p : Program} {e : Jvm.Env} {s : State} {m : MethodId} {args : Array Value} {below : List Frame} {meth : Method} {c : Code} {q1 : Nat} {R : Nat → Nat → Nat} {L : Nat → Nat → Int64} {r : (Int32 × SI)} {N : Nat} (C : Cx l g p s m meth c cX10_takeName 6 RX10) (hr : meth.sig.returnType = (some .int)) (hSh : ShR R) (hq1 : q1 < 10000) : ∀ (n : Nat) (σ : SI) (x0 : Nat) (x1 : Nat) (x2 : Int32) (x3 : Int32) (x4 : Int32) (x5 : Int32), f_X10_takeName_53 N R q1 n σ x0 x1 x2 x3 x4 x5 = some r → Ok 202 x0 10 → Ok 202 x1 (10000 + q1) → ∀ (H : Heap) (locs : List Loc) (ls : Array Slot), S2 g s σ R L H locs → lv_has ls 6 [(0, .ref (ga g x0)), (1, .ref (ga g x1)), (2, .int x2), (3, .int x3), (4, .int x4), (5, .int x5)] → W p l e (rmd 2 0 0) s m args below meth c H locs 0 0 (MQ below (Qg g 202 (PI R L r)) args s 0 0 (gA g)) (F0 m 53 ls []) := by
  have hx := C.1
  have hb := C.2.1
  intro n
  induction n with
  | zero =>
    intro σ x0 x1 x2 x3 x4 x5 h
    cases (show (none : Option (Int32 × SI)) = some r from h)
  | succ n ih =>
    intro σ x0 x1 x2 x3 x4 x5 h hx0 hx1 H locs ls S hl
    rw [f_X10_takeName_53] at h
    refine lv_iload hx hb dX10_takeName_53 (lv_at hl 5 rfl) ?_
    refine lv_iload_n hx hb dX10_takeName_55 rfl (lv_at hl 2 rfl) ?_
    refine lv_icmp_ge (tgt := 85) hx hb dX10_takeName_56 (by decide) (fun c7 => ?_) (fun c7 => ?_)
    · have h := it_p c7 h
      refine lv_aload_n hx hb dX10_takeName_85 rfl (lv_at hl 0 rfl) ?_
      refine lv_iload_n hx hb dX10_takeName_86 rfl (lv_at hl 3 rfl) ?_
      obtain ⟨σ8, hs8, h⟩ := sq_el h
      refine x_putI C S KX10 hx0 2 (by decide) rfl rfl rfl ⟨rfl, rfl⟩ fl_RX10_22 dX10_takeName_87 hs8 (fun H locs S => ?_)
      refine lv_iload hx hb dX10_takeName_90 (lv_at hl 4 rfl) ?_
      exact x_iret C S hr h dX10_takeName_92
    · have h := it_n c7 h
      refine lv_aload_n hx hb dX10_takeName_59 rfl (lv_at hl 1 rfl) ?_
      refine lv_iload hx hb dX10_takeName_60 (lv_at hl 5 rfl) ?_
      obtain ⟨hi9, h⟩ := ck_el h
      refine x_iald (len := q1) C S hq1 hx1 hi9 dX10_takeName_62 ?_
      refine lv_iload hx hb dX10_takeName_63 (lv_at hl 4 rfl) ?_
      refine lv_icmp_ne (tgt := 79) hx hb dX10_takeName_65 (by decide) (fun c10 => ?_) (fun c10 => ?_)
      · have h := it_n c10 h
        refine lv_iinc (v := x5 + 1) (lv' := [(5, .int (x5 + 1)), (0, .ref (ga g x0)), (1, .ref (ga g x1)), (2, .int x2), (3, .int x3), (4, .int x4)]) hx hb dX10_takeName_79 hl (k := 5) rfl rfl (by decide) rfl (fun ls hl => ?_)
        refine lv_goto (tgt := 53) hx hb dX10_takeName_82 (by decide) ?_
        exact ih σ x0 x1 x2 x3 x4 (x5 + 1) h hx0 hx1 H locs ls S (lv_sub hl [1, 2, 3, 4, 5, 0] rfl)
      · have h := it_p c10 h
        refine lv_aload_n hx hb dX10_takeName_68 rfl (lv_at hl 0 rfl) ?_
        refine lv_aload_n hx hb dX10_takeName_69 rfl (lv_at hl 0 rfl) ?_
        refine x_getI C S KX10 hx0 2 (by decide) rfl rfl fl_RX10_22 dX10_takeName_70 ?_
        refine lv_iconst (v := (3 : Int32)) hx hb dX10_takeName_73 (by decide) ?_
        obtain ⟨a11, σ11, hc11, h⟩ := bd_el h
        refine x_callVV C S KX10 hx0 (ok_X10_fail (L := L) hc11 hSh hx0) ⟨cd_X10_fail, ni_RX10, ml_RX10_35, in_X10_fail, sl_X10_fail⟩ ⟨by decide, by decide⟩ rfl (rm_ok (by decide) (by decide)) hl.1 rfl (Nat.le_of_ble_eq_true rfl) ⟨by decide, by decide⟩ dX10_takeName_74 (fun H locs S => ?_)
        refine lv_iconst (v := (-1 : Int32)) hx hb dX10_takeName_77 (by decide) ?_
        exact x_iret C S hr h dX10_takeName_78
set_option maxHeartbeats 4000000 in
set_option maxRecDepth 100000 in
theorem ok_X10_takeName {l : Launch} {g : GL} {q1 : Nat} {R : Nat → Nat → Nat} {L : Nat → Nat → Int64} {N : Nat} {σ : SI} {x0 : Nat} {x1 : Nat} {x2 : Int32} {r : (Int32 × SI)} (h : f_X10_takeName N R q1 σ x0 x1 x2 = some r) (hSh : ShR R) (hq1 : q1 < 10000) (hx0 : Ok 202 x0 10) (hx1 : Ok 202 x1 (10000 + q1)) : Ct l g 2 yX10_takeName cX10_takeName 6 (some .int) 202 202 0 0 [.ref (ga g x0), .ref (ga g x1), .int x2] (mkS σ R L) (PI R L r) := by
  refine Met.ofW (cc := cX10_takeName) (maxL := 6) (ret := (some .int)) (by decide) rfl ?_
  intro p e s m args below meth c s₁ B hml hv
  obtain ⟨rfl, hE, hLo, hWd⟩ := hv
  have hr : meth.sig.returnType = (some .int) := B.returns
  have C : Cx l g p s m meth c cX10_takeName 6 RX10 := ⟨B.exec, B.bytes, hml, findClass_of_methodNamed B.named, hE, hLo, B.notSynchronized⟩
  have S : S2 g s σ R L s.heap [] := ⟨hWd, va_S.rf⟩
  have hx := C.1
  have hb := C.2.1
  have hl := lv_entry ([.ref (ga g x0), .ref (ga g x1), .int x2]) (n := 6) (Nat.le_of_ble_eq_true rfl)
  rw [lg_entry_eq]
  generalize (lg_sl ([.ref (ga g x0), .ref (ga g x1), .int x2]) ++ List.replicate (6 - (lg_sl ([.ref (ga g x0), .ref (ga g x1), .int x2])).length) Slot.unset).toArray = ls at hl ⊢
  have hl : lv_has ls 6 [(0, .ref (ga g x0)), (1, .ref (ga g x1)), (2, .int x2)] := hl
  generalize hH : s.heap = H at S ⊢
  generalize hlc : ([] : List Loc) = locs at S ⊢
  rw [f_X10_takeName] at h
  refine lv_aload_n hx hb dX10_takeName_0 rfl (lv_at hl 0 rfl) ?_
  obtain ⟨a1, σ1, hc1, h⟩ := bd_el h
  refine x_callVV C S KX10 hx0 (ok_X10_skipSpaces (L := L) hc1 hSh hx0) ⟨cd_X10_skipSpaces, ni_RX10, ml_RX10_28, in_X10_skipSpaces, sl_X10_skipSpaces⟩ ⟨by decide, by decide⟩ rfl (rm_ok (by decide) (by decide)) hl.1 rfl (Nat.le_of_ble_eq_true rfl) ⟨by decide, by decide⟩ dX10_takeName_1 (fun H locs S => ?_)
  refine lv_aload_n hx hb dX10_takeName_4 rfl (lv_at hl 0 rfl) ?_
  refine lv_bipush (v := (97 : Int32)) hx hb dX10_takeName_5 (by decide) ?_
  refine lv_bipush (v := (122 : Int32)) hx hb dX10_takeName_7 (by decide) ?_
  obtain ⟨a2, σ2, hc2, h⟩ := bd_el h
  refine x_callVI C S KX10 hx0 (ok_X10_endOfRun (L := L) hc2 hSh hx0) ⟨cd_X10_endOfRun, ni_RX10, ml_RX10_31, in_X10_endOfRun, sl_X10_endOfRun⟩ ⟨by decide, by decide⟩ rfl (rm_ok (by decide) (by decide)) hl.1 rfl (Nat.le_of_ble_eq_true rfl) ⟨by decide, by decide⟩ dX10_takeName_9 (fun H locs S => ?_)
  refine lv_istore_n (lv' := [(3, .int a2), (0, .ref (ga g x0)), (1, .ref (ga g x1)), (2, .int x2)]) hx hb dX10_takeName_12 rfl hl (by decide) rfl (fun ls hl => ?_)
  refine lv_iload_n hx hb dX10_takeName_13 rfl (lv_at hl 0 rfl) ?_
  refine lv_aload_n hx hb dX10_takeName_14 rfl (lv_at hl 1 rfl) ?_
  refine x_getI C S KX10 hx0 2 (by decide) rfl rfl fl_RX10_22 dX10_takeName_15 ?_
  refine lv_icmp_eq (tgt := 32) hx hb dX10_takeName_18 (by decide) (fun c3 => ?_) (fun c3 => ?_)
  · have h := it_p c3 h
    exact w_X10_takeName_32 C hr hSh hq1 σ2 x0 h hx0 H locs ls S (lv_sub hl [1] rfl)
  · have h := it_n c3 h
    refine lv_iload_n hx hb dX10_takeName_21 rfl (lv_at hl 0 rfl) ?_
    refine lv_aload_n hx hb dX10_takeName_22 rfl (lv_at hl 1 rfl) ?_
    refine x_getI C S KX10 hx0 2 (by decide) rfl rfl fl_RX10_22 dX10_takeName_23 ?_
    refine lv_isub hx hb dX10_takeName_26 ?_
    refine lv_bipush (v := (6 : Int32)) hx hb dX10_takeName_27 (by decide) ?_
    refine lv_icmp_le (tgt := 43) hx hb dX10_takeName_29 (by decide) (fun c5 => ?_) (fun c5 => ?_)
    · have h := it_p c5 h
      refine lv_aload_n hx hb dX10_takeName_43 rfl (lv_at hl 1 rfl) ?_
      refine lv_iload_n hx hb dX10_takeName_44 rfl (lv_at hl 0 rfl) ?_
      obtain ⟨a6, σ6, hc6, h⟩ := bd_el h
      refine x_callVI C S KX10 hx0 (ok_X10_nameUpTo (L := L) hc6 hSh hx0) ⟨cd_X10_nameUpTo, ni_RX10, ml_RX10_48, in_X10_nameUpTo, sl_X10_nameUpTo⟩ ⟨by decide, by decide⟩ rfl (rm_ok (by decide) (by decide)) hl.1 rfl (Nat.le_of_ble_eq_true rfl) ⟨by decide, by decide⟩ dX10_takeName_45 (fun H locs S => ?_)
      refine lv_istore (lv' := [(4, .int a6), (3, .int a2), (0, .ref (ga g x0)), (1, .ref (ga g x1)), (2, .int x2)]) hx hb dX10_takeName_48 hl (by decide) rfl (fun ls hl => ?_)
      refine lv_iconst (v := (0 : Int32)) hx hb dX10_takeName_50 (by decide) ?_
      refine lv_istore (lv' := [(5, .int (0 : Int32)), (4, .int a6), (3, .int a2), (0, .ref (ga g x0)), (1, .ref (ga g x1)), (2, .int x2)]) hx hb dX10_takeName_51 hl (by decide) rfl (fun ls hl => ?_)
      exact w_X10_takeName_53 C hr hSh hq1 N σ6 x0 x1 x2 a2 a6 (0 : Int32) h hx0 hx1 H locs ls S (lv_sub hl [3, 4, 5, 2, 1, 0] rfl)
    · have h := it_n c5 h
      exact w_X10_takeName_32 C hr hSh hq1 σ2 x0 h hx0 H locs ls S (lv_sub hl [1] rfl)
theorem dX10_takeNumber_0 : decode cX10_takeNumber 0 = .ok (.aload_n 0, 1) := by decide +kernel
theorem dX10_takeNumber_1 : decode cX10_takeNumber 1 = .ok (.invokevirtual 52, 3) := by decide +kernel
theorem dX10_takeNumber_4 : decode cX10_takeNumber 4 = .ok (.ifCond .eq 5, 3) := by decide +kernel
theorem dX10_takeNumber_7 : decode cX10_takeNumber 7 = .ok (.iconst (-1), 1) := by decide +kernel
theorem dX10_takeNumber_8 : decode cX10_takeNumber 8 = .ok (.ireturn, 1) := by decide +kernel
theorem dX10_takeNumber_9 : decode cX10_takeNumber 9 = .ok (.aload_n 0, 1) := by decide +kernel
theorem dX10_takeNumber_10 : decode cX10_takeNumber 10 = .ok (.invokevirtual 28, 3) := by decide +kernel
theorem dX10_takeNumber_13 : decode cX10_takeNumber 13 = .ok (.aload_n 0, 1) := by decide +kernel
theorem dX10_takeNumber_14 : decode cX10_takeNumber 14 = .ok (.bipush 48, 2) := by decide +kernel
theorem dX10_takeNumber_16 : decode cX10_takeNumber 16 = .ok (.bipush 57, 2) := by decide +kernel
theorem dX10_takeNumber_18 : decode cX10_takeNumber 18 = .ok (.invokevirtual 31, 3) := by decide +kernel
theorem dX10_takeNumber_21 : decode cX10_takeNumber 21 = .ok (.istore_n 3, 1) := by decide +kernel
theorem dX10_takeNumber_22 : decode cX10_takeNumber 22 = .ok (.iload_n 3, 1) := by decide +kernel
theorem dX10_takeNumber_23 : decode cX10_takeNumber 23 = .ok (.aload_n 0, 1) := by decide +kernel
theorem dX10_takeNumber_24 : decode cX10_takeNumber 24 = .ok (.getfield 22, 3) := by decide +kernel
theorem dX10_takeNumber_27 : decode cX10_takeNumber 27 = .ok (.if_icmp .ne 14, 3) := by decide +kernel
theorem dX10_takeNumber_30 : decode cX10_takeNumber 30 = .ok (.aload_n 0, 1) := by decide +kernel
theorem dX10_takeNumber_31 : decode cX10_takeNumber 31 = .ok (.aload_n 0, 1) := by decide +kernel
theorem dX10_takeNumber_32 : decode cX10_takeNumber 32 = .ok (.getfield 22, 3) := by decide +kernel
theorem dX10_takeNumber_35 : decode cX10_takeNumber 35 = .ok (.iconst 1, 1) := by decide +kernel
theorem dX10_takeNumber_36 : decode cX10_takeNumber 36 = .ok (.invokevirtual 35, 3) := by decide +kernel
theorem dX10_takeNumber_39 : decode cX10_takeNumber 39 = .ok (.iconst (-1), 1) := by decide +kernel
theorem dX10_takeNumber_40 : decode cX10_takeNumber 40 = .ok (.ireturn, 1) := by decide +kernel
theorem dX10_takeNumber_41 : decode cX10_takeNumber 41 = .ok (.iload_n 3, 1) := by decide +kernel
theorem dX10_takeNumber_42 : decode cX10_takeNumber 42 = .ok (.aload_n 0, 1) := by decide +kernel
theorem dX10_takeNumber_43 : decode cX10_takeNumber 43 = .ok (.getfield 22, 3) := by decide +kernel
theorem dX10_takeNumber_46 : decode cX10_takeNumber 46 = .ok (.isub, 1) := by decide +kernel
theorem dX10_takeNumber_47 : decode cX10_takeNumber 47 = .ok (.iconst 5, 1) := by decide +kernel
theorem dX10_takeNumber_48 : decode cX10_takeNumber 48 = .ok (.if_icmp .le 7, 3) := by decide +kernel
theorem dX10_takeNumber_51 : decode cX10_takeNumber 51 = .ok (.iconst (-1), 1) := by decide +kernel
theorem dX10_takeNumber_52 : decode cX10_takeNumber 52 = .ok (.goto 8, 3) := by decide +kernel
theorem dX10_takeNumber_55 : decode cX10_takeNumber 55 = .ok (.aload_n 0, 1) := by decide +kernel
theorem dX10_takeNumber_56 : decode cX10_takeNumber 56 = .ok (.iload_n 3, 1) := by decide +kernel
theorem dX10_takeNumber_57 : decode cX10_takeNumber 57 = .ok (.invokevirtual 56, 3) := by decide +kernel
theorem dX10_takeNumber_60 : decode cX10_takeNumber 60 = .ok (.istore 4, 2) := by decide +kernel
theorem dX10_takeNumber_62 : decode cX10_takeNumber 62 = .ok (.iload 4, 2) := by decide +kernel
theorem dX10_takeNumber_64 : decode cX10_takeNumber 64 = .ok (.iload_n 1, 1) := by decide +kernel
theorem dX10_takeNumber_65 : decode cX10_takeNumber 65 = .ok (.if_icmp .lt 9, 3) := by decide +kernel
theorem dX10_takeNumber_68 : decode cX10_takeNumber 68 = .ok (.iload 4, 2) := by decide +kernel
theorem dX10_takeNumber_70 : decode cX10_takeNumber 70 = .ok (.iload_n 2, 1) := by decide +kernel
theorem dX10_takeNumber_71 : decode cX10_takeNumber 71 = .ok (.if_icmp .le 14, 3) := by decide +kernel
theorem dX10_takeNumber_74 : decode cX10_takeNumber 74 = .ok (.aload_n 0, 1) := by decide +kernel
theorem dX10_takeNumber_75 : decode cX10_takeNumber 75 = .ok (.aload_n 0, 1) := by decide +kernel
theorem dX10_takeNumber_76 : decode cX10_takeNumber 76 = .ok (.getfield 22, 3) := by decide +kernel
theorem dX10_takeNumber_79 : decode cX10_takeNumber 79 = .ok (.iconst 2, 1) := by decide +kernel
theorem dX10_takeNumber_80 : decode cX10_takeNumber 80 = .ok (.invokevirtual 35, 3) := by decide +kernel
theorem dX10_takeNumber_83 : decode cX10_takeNumber 83 = .ok (.iconst (-1), 1) := by decide +kernel
theorem dX10_takeNumber_84 : decode cX10_takeNumber 84 = .ok (.ireturn, 1) := by decide +kernel
theorem dX10_takeNumber_85 : decode cX10_takeNumber 85 = .ok (.aload_n 0, 1) := by decide +kernel
theorem dX10_takeNumber_86 : decode cX10_takeNumber 86 = .ok (.iload_n 3, 1) := by decide +kernel
theorem dX10_takeNumber_87 : decode cX10_takeNumber 87 = .ok (.putfield 22, 3) := by decide +kernel
theorem dX10_takeNumber_90 : decode cX10_takeNumber 90 = .ok (.iload 4, 2) := by decide +kernel
theorem dX10_takeNumber_92 : decode cX10_takeNumber 92 = .ok (.ireturn, 1) := by decide +kernel
def f_X10_takeNumber_74 (N : Nat) (R : Nat → Nat → Nat) (σ : SI) (x0 : Nat) : Option (Int32 × SI) := bd (f_X10_fail N R σ x0 (σ x0 2) (2 : Int32)) (fun _ σ9 => some ((-1 : Int32), σ9))
def f_X10_takeNumber (N : Nat) (R : Nat → Nat → Nat) (σ : SI) (x0 : Nat) (x1 : Int32) (x2 : Int32) : Option (Int32 × SI) := bd (f_X10_failed N R σ x0) (fun a1 σ1 => if a1 = 0 then (bd (f_X10_skipSpaces N R σ1 x0) (fun _ σ3 => bd (f_X10_endOfRun N R σ3 x0 (48 : Int32) (57 : Int32)) (fun a4 σ4 => if a4 = (σ4 x0 2) then (bd (f_X10_fail N R σ4 x0 (σ4 x0 2) (1 : Int32)) (fun _ σ15 => some ((-1 : Int32), σ15))) else (if (a4 - (σ4 x0 2)) ≤ (5 : Int32) then (bd (f_X10_valueUpTo N R σ4 x0 a4) (fun a7 σ7 => if a7 < x1 then (f_X10_takeNumber_74 N R σ7 x0) else (if a7 ≤ x2 then (sq (up σ7 x0 2 a4) (fun σ11 => some (a7, σ11))) else (f_X10_takeNumber_74 N R σ7 x0)))) else (if (-1 : Int32) < x1 then (f_X10_takeNumber_74 N R σ4 x0) else (if (-1 : Int32) ≤ x2 then (sq (up σ4 x0 2 a4) (fun σ14 => some ((-1 : Int32), σ14))) else (f_X10_takeNumber_74 N R σ4 x0))))))) else (some ((-1 : Int32), σ1)))
set_option maxHeartbeats 4000000 in
set_option maxRecDepth 100000 in
theorem w_X10_takeNumber_74 {l : Launch} {g : GL} {p : Program} {e : Jvm.Env} {s : State} {m : MethodId} {args : Array Value} {below : List Frame} {meth : Method} {c : Code} {R : Nat → Nat → Nat} {L : Nat → Nat → Int64} {r : (Int32 × SI)} {N : Nat} (C : Cx l g p s m meth c cX10_takeNumber 5 RX10) (hr : meth.sig.returnType = (some .int)) (hSh : ShR R) : ∀ (σ : SI) (x0 : Nat), f_X10_takeNumber_74 N R σ x0 = some r → Ok 202 x0 10 → ∀ (H : Heap) (locs : List Loc) (ls : Array Slot), S2 g s σ R L H locs → lv_has ls 5 [(0, .ref (ga g x0))] → W p l e (rmd 2 0 0) s m args below meth c H locs 0 0 (MQ below (Qg g 202 (PI R L r)) args s 0 0 (gA g)) (F0 m 74 ls []) := by
  have hx := C.1
  have hb := C.2.1
  intro σ x0 h hx0 H locs ls S hl
  rw [f_X10_takeNumber_74] at h
  refine lv_aload_n hx hb dX10_takeNumber_74 rfl (lv_at hl 0 rfl) ?_
  refine lv_aload_n hx hb dX10_takeNumber_75 rfl (lv_at hl 0 rfl) ?_
  refine x_getI C S KX10 hx0 2 (by decide) rfl rfl fl_RX10_22 dX10_takeNumber_76 ?_
  refine lv_iconst (v := (2 : Int32)) hx hb dX10_takeNumber_79 (by decide) ?_
  obtain ⟨a9, σ9, hc9, h⟩ := bd_el h
  refine x_callVV C S KX10 hx0 (ok_X10_fail (L := L) hc9 hSh hx0) ⟨cd_X10_fail, ni_RX10, ml_RX10_35, in_X10_fail, sl_X10_fail⟩ ⟨by decide, by decide⟩ rfl (rm_ok (by decide) (by decide)) hl.1 rfl (Nat.le_of_ble_eq_true rfl) ⟨by decide, by decide⟩ dX10_takeNumber_80 (fun H locs S => ?_)
  refine lv_iconst (v := (-1 : Int32)) hx hb dX10_takeNumber_83 (by decide) ?_
  exact x_iret C S hr h dX10_takeNumber_84
set_option maxHeartbeats 4000000 in
set_option maxRecDepth 100000 in
theorem ok_X10_takeNumber {l : Launch} {g : GL} {R : Nat → Nat → Nat} {L : Nat → Nat → Int64} {N : Nat} {σ : SI} {x0 : Nat} {x1 : Int32} {x2 : Int32} {r : (Int32 × SI)} (h : f_X10_takeNumber N R σ x0 x1 x2 = some r) (hSh : ShR R) (hx0 : Ok 202 x0 10) : Ct l g 2 yX10_takeNumber cX10_takeNumber 5 (some .int) 202 202 0 0 [.ref (ga g x0), .int x1, .int x2] (mkS σ R L) (PI R L r) := by
  refine Met.ofW (cc := cX10_takeNumber) (maxL := 5) (ret := (some .int)) (by decide) rfl ?_
  intro p e s m args below meth c s₁ B hml hv
  obtain ⟨rfl, hE, hLo, hWd⟩ := hv
  have hr : meth.sig.returnType = (some .int) := B.returns
  have C : Cx l g p s m meth c cX10_takeNumber 5 RX10 := ⟨B.exec, B.bytes, hml, findClass_of_methodNamed B.named, hE, hLo, B.notSynchronized⟩
  have S : S2 g s σ R L s.heap [] := ⟨hWd, va_S.rf⟩
  have hx := C.1
  have hb := C.2.1
  have hl := lv_entry ([.ref (ga g x0), .int x1, .int x2]) (n := 5) (Nat.le_of_ble_eq_true rfl)
  rw [lg_entry_eq]
  generalize (lg_sl ([.ref (ga g x0), .int x1, .int x2]) ++ List.replicate (5 - (lg_sl ([.ref (ga g x0), .int x1, .int x2])).length) Slot.unset).toArray = ls at hl ⊢
  have hl : lv_has ls 5 [(0, .ref (ga g x0)), (1, .int x1), (2, .int x2)] := hl
  generalize hH : s.heap = H at S ⊢
  generalize hlc : ([] : List Loc) = locs at S ⊢
  rw [f_X10_takeNumber] at h
  refine lv_aload_n hx hb dX10_takeNumber_0 rfl (lv_at hl 0 rfl) ?_
  obtain ⟨a1, σ1, hc1, h⟩ := bd_el h
  refine x_callVI C S KX10 hx0 (ok_X10_failed (L := L) hc1 hSh hx0) ⟨cd_X10_failed, ni_RX10, ml_RX10_52, in_X10_failed, sl_X10_failed⟩ ⟨by decide, by decide⟩ rfl (rm_ok (by decide) (by decide)) hl.1 rfl (Nat.le_of_ble_eq_true rfl) ⟨by decide, by decide⟩ dX10_takeNumber_1 (fun H locs S => ?_)
  refine lv_if_eq (tgt := 9) hx hb dX10_takeNumber_4 (by decide) (fun c2 => ?_) (fun c2 => ?_)
  · have h := it_p c2 h
    refine lv_aload_n hx hb dX10_takeNumber_9 rfl (lv_at hl 0 rfl) ?_
    obtain ⟨a3, σ3, hc3, h⟩ := bd_el h
    refine x_callVV C S KX10 hx0 (ok_X10_skipSpaces (L := L) hc3 hSh hx0) ⟨cd_X10_skipSpaces, ni_RX10, ml_RX10_28, in_X10_skipSpaces, sl_X10_skipSpaces⟩ ⟨by decide, by decide⟩ rfl (rm_ok (by decide) (by decide)) hl.1 rfl (Nat.le_of_ble_eq_true rfl) ⟨by decide, by decide⟩ dX10_takeNumber_10 (fun H locs S => ?_)
    refine lv_aload_n hx hb dX10_takeNumber_13 rfl (lv_at hl 0 rfl) ?_
    refine lv_bipush (v := (48 : Int32)) hx hb dX10_takeNumber_14 (by decide) ?_
    refine lv_bipush (v := (57 : Int32)) hx hb dX10_takeNumber_16 (by decide) ?_
    obtain ⟨a4, σ4, hc4, h⟩ := bd_el h
    refine x_callVI C S KX10 hx0 (ok_X10_endOfRun (L := L) hc4 hSh hx0) ⟨cd_X10_endOfRun, ni_RX10, ml_RX10_31, in_X10_endOfRun, sl_X10_endOfRun⟩ ⟨by decide, by decide⟩ rfl (rm_ok (by decide) (by decide)) hl.1 rfl (Nat.le_of_ble_eq_true rfl) ⟨by decide, by decide⟩ dX10_takeNumber_18 (fun H locs S => ?_)
    refine lv_istore_n (lv' := [(3, .int a4), (0, .ref (ga g x0)), (1, .int x1), (2, .int x2)]) hx hb dX10_takeNumber_21 rfl hl (by decide) rfl (fun ls hl => ?_)
    refine lv_iload_n hx hb dX10_takeNumber_22 rfl (lv_at hl 0 rfl) ?_
    refine lv_aload_n hx hb dX10_takeNumber_23 rfl (lv_at hl 1 rfl) ?_
    refine x_getI C S KX10 hx0 2 (by decide) rfl rfl fl_RX10_22 dX10_takeNumber_24 ?_
    refine lv_icmp_ne (tgt := 41) hx hb dX10_takeNumber_27 (by decide) (fun c5 => ?_) (fun c5 => ?_)
    · have h := it_n c5 h
      refine lv_iload_n hx hb dX10_takeNumber_41 rfl (lv_at hl 0 rfl) ?_
      refine lv_aload_n hx hb dX10_takeNumber_42 rfl (lv_at hl 1 rfl) ?_
      refine x_getI C S KX10 hx0 2 (by decide) rfl rfl fl_RX10_22 dX10_takeNumber_43 ?_
      refine lv_isub hx hb dX10_takeNumber_46 ?_
      refine lv_iconst (v := (5 : Int32)) hx hb dX10_takeNumber_47 (by decide) ?_
      refine lv_icmp_le (tgt := 55) hx hb dX10_takeNumber_48 (by decide) (fun c6 => ?_) (fun c6 => ?_)
      · have h := it_p c6 h
        refine lv_aload_n hx hb dX10_takeNumber_55 rfl (lv_at hl 1 rfl) ?_
        refine lv_iload_n hx hb dX10_takeNumber_56 rfl (lv_at hl 0 rfl) ?_
        obtain ⟨a7, σ7, hc7, h⟩ := bd_el h
        refine x_callVI C S KX10 hx0 (ok_X10_valueUpTo (L := L) hc7 hSh hx0) ⟨cd_X10_valueUpTo, ni_RX10, ml_RX10_56, in_X10_valueUpTo, sl_X10_valueUpTo⟩ ⟨by decide, by decide⟩ rfl (rm_ok (by decide) (by decide)) hl.1 rfl (Nat.le_of_ble_eq_true rfl) ⟨by decide, by decide⟩ dX10_takeNumber_57 (fun H locs S => ?_)
        refine lv_istore (lv' := [(4, .int a7), (3, .int a4), (0, .ref (ga g x0)), (1, .int x1), (2, .int x2)]) hx hb dX10_takeNumber_60 hl (by decide) rfl (fun ls hl => ?_)
        refine lv_iload hx hb dX10_takeNumber_62 (lv_at hl 0 rfl) ?_
        refine lv_iload_n hx hb dX10_takeNumber_64 rfl (lv_at hl 3 rfl) ?_
        refine lv_icmp_lt (tgt := 74) hx hb dX10_takeNumber_65 (by decide) (fun c8 => ?_) (fun c8 => ?_)
        · have h := it_p c8 h
          exact w_X10_takeNumber_74 C hr hSh σ7 x0 h hx0 H locs ls S (lv_sub hl [2] rfl)
        · have h := it_n c8 h
          refine lv_iload hx hb dX10_takeNumber_68 (lv_at hl 0 rfl) ?_
          refine lv_iload_n hx hb dX10_takeNumber_70 rfl (lv_at hl 4 rfl) ?_
          refine lv_icmp_le (tgt := 85) hx hb dX10_takeNumber_71 (by decide) (fun c10 => ?_) (fun c10 => ?_)
          · have h := it_p c10 h
            refine lv_aload_n hx hb dX10_takeNumber_85 rfl (lv_at hl 2 rfl) ?_
            refine lv_iload_n hx hb dX10_takeNumber_86 rfl (lv_at hl 1 rfl) ?_
            obtain ⟨σ11, hs11, h⟩ := sq_el h
            refine x_putI C S KX10 hx0 2 (by decide) rfl rfl rfl ⟨rfl, rfl⟩ fl_RX10_22 dX10_takeNumber_87 hs11 (fun H locs S => ?_)
            refine lv_iload hx hb dX10_takeNumber_90 (lv_at hl 0 rfl) ?_
            exact x_iret C S hr h dX10_takeNumber_92
          · have h := it_n c10 h
            exact w_X10_takeNumber_74 C hr hSh σ7 x0 h hx0 H locs ls S (lv_sub hl [2] rfl)
      · have h := it_n c6 h
        refine lv_iconst (v := (-1 : Int32)) hx hb dX10_takeNumber_51 (by decide) ?_
        refine lv_goto (tgt := 60) hx hb dX10_takeNumber_52 (by decide) ?_
        refine lv_istore (lv' := [(4, .int (-1 : Int32)), (3, .int a4), (0, .ref (ga g x0)), (1, .int x1), (2, .int x2)]) hx hb dX10_takeNumber_60 hl (by decide) rfl (fun ls hl => ?_)
        refine lv_iload hx hb dX10_takeNumber_62 (lv_at hl 0 rfl) ?_
        refine lv_iload_n hx hb dX10_takeNumber_64 rfl (lv_at hl 3 rfl) ?_
        refine lv_icmp_lt (tgt := 74) hx hb dX10_takeNumber_65 (by decide) (fun c12 => ?_) (fun c12 => ?_)
        · have h := it_p c12 h
          exact w_X10_takeNumber_74 C hr hSh σ4 x0 h hx0 H locs ls S (lv_sub hl [2] rfl)
        · have h := it_n c12 h
          refine lv_iload hx hb dX10_takeNumber_68 (lv_at hl 0 rfl) ?_
          refine lv_iload_n hx hb dX10_takeNumber_70 rfl (lv_at hl 4 rfl) ?_
          refine lv_icmp_le (tgt := 85) hx hb dX10_takeNumber_71 (by decide) (fun c13 => ?_) (fun c13 => ?_)
          · have h := it_p c13 h
            refine lv_aload_n hx hb dX10_takeNumber_85 rfl (lv_at hl 2 rfl) ?_
            refine lv_iload_n hx hb dX10_takeNumber_86 rfl (lv_at hl 1 rfl) ?_
            obtain ⟨σ14, hs14, h⟩ := sq_el h
            refine x_putI C S KX10 hx0 2 (by decide) rfl rfl rfl ⟨rfl, rfl⟩ fl_RX10_22 dX10_takeNumber_87 hs14 (fun H locs S => ?_)
            refine lv_iload hx hb dX10_takeNumber_90 (lv_at hl 0 rfl) ?_
            exact x_iret C S hr h dX10_takeNumber_92
          · have h := it_n c13 h
            exact w_X10_takeNumber_74 C hr hSh σ4 x0 h hx0 H locs ls S (lv_sub hl [2] rfl)
    · have h := it_p c5 h
      refine lv_aload_n hx hb dX10_takeNumber_30 rfl (lv_at hl 1 rfl) ?_
      refine lv_aload_n hx hb dX10_takeNumber_31 rfl (lv_at hl 1 rfl) ?_
      refine x_getI C S KX10 hx0 2 (by decide) rfl rfl fl_RX10_22 dX10_takeNumber_32 ?_
      refine lv_iconst (v := (1 : Int32)) hx hb dX10_takeNumber_35 (by decide) ?_
      obtain ⟨a15, σ15, hc15, h⟩ := bd_el h
      refine x_callVV C S KX10 hx0 (ok_X10_fail (L := L) hc15 hSh hx0) ⟨cd_X10_fail, ni_RX10, ml_RX10_35, in_X10_fail, sl_X10_fail⟩ ⟨by decide, by decide⟩ rfl (rm_ok (by decide) (by decide)) hl.1 rfl (Nat.le_of_ble_eq_true rfl) ⟨by decide, by decide⟩ dX10_takeNumber_36 (fun H locs S => ?_)
      refine lv_iconst (v := (-1 : Int32)) hx hb dX10_takeNumber_39 (by decide) ?_
      exact x_iret C S hr h dX10_takeNumber_40
  · have h := it_n c2 h
    refine lv_iconst (v := (-1 : Int32)) hx hb dX10_takeNumber_7 (by decide) ?_
    exact x_iret C S hr h dX10_takeNumber_8
theorem dX11_reason_0 : decode cX11_reason 0 = .ok (.aload_n 0, 1) := by decide +kernel
theorem dX11_reason_1 : decode cX11_reason 1 = .ok (.iload_n 1, 1) := by decide +kernel
theorem dX11_reason_2 : decode cX11_reason 2 = .ok (.invokevirtual 225, 3) := by decide +kernel
theorem dX11_reason_5 : decode cX11_reason 5 = .ok (.aload_n 0, 1) := by decide +kernel
theorem dX11_reason_6 : decode cX11_reason 6 = .ok (.iload_n 2, 1) := by decide +kernel
theorem dX11_reason_7 : decode cX11_reason 7 = .ok (.iconst 0, 1) := by decide +kernel
theorem dX11_reason_8 : decode cX11_reason 8 = .ok (.sipush 1439, 3) := by decide +kernel
theorem dX11_reason_11 : decode cX11_reason 11 = .ok (.invokevirtual 176, 3) := by decide +kernel
theorem dX11_reason_14 : decode cX11_reason 14 = .ok (.aload_n 0, 1) := by decide +kernel
theorem dX11_reason_15 : decode cX11_reason 15 = .ok (.getfield 61, 3) := by decide +kernel
theorem dX11_reason_18 : decode cX11_reason 18 = .ok (.iload_n 1, 1) := by decide +kernel
theorem dX11_reason_19 : decode cX11_reason 19 = .ok (.iload_n 2, 1) := by decide +kernel
theorem dX11_reason_20 : decode cX11_reason 20 = .ok (.aload_n 0, 1) := by decide +kernel
theorem dX11_reason_21 : decode cX11_reason 21 = .ok (.getfield 61, 3) := by decide +kernel
theorem dX11_reason_24 : decode cX11_reason 24 = .ok (.getfield 228, 3) := by decide +kernel
theorem dX11_reason_27 : decode cX11_reason 27 = .ok (.invokevirtual 235, 3) := by decide +kernel
theorem dX11_reason_30 : decode cX11_reason 30 = .ok (.ireturn, 1) := by decide +kernel
def f_X11_reason (N : Nat) (R : Nat → Nat → Nat) (σ : SI) (x0 : Nat) (x1 : Int32) (x2 : Int32) : Option ((Int32 ⊕ Nat) × SI) := bdX (f_X11_needBlast N R σ x0 x1) (fun _ σ2 => bdX (f_X11_needRange N R σ2 x0 x2 (0 : Int32) (1439 : Int32)) (fun _ σ4 => bd (f_X9_reasonAgainst N R σ4 (R x0 8) x1 x2 (R (R x0 8) 6)) (fun a8 σ8 => some (.inl a8, σ8))))
set_option maxHeartbeats 4000000 in
set_option maxRecDepth 100000 in
theorem ok_X11_reason {l : Launch} {g : GL} {R : Nat → Nat → Nat} {L : Nat → Nat → Int64} {N : Nat} {σ : SI} {x0 : Nat} {x1 : Int32} {x2 : Int32} {r : ((Int32 ⊕ Nat) × SI)} (h : f_X11_reason N R σ x0 x1 x2 = some r) (hSh : ShR R) (hx0 : Ok 202 x0 11) : CtX l g 7 yX11_reason cX11_reason 3 (some .int) 202 202 2 12 [.ref (ga g x0), .int x1, .int x2] (mkS σ R L) (PIX R L r) (PX R L r) := by
  refine vx_ofW (cc := cX11_reason) (maxL := 3) (ret := (some .int)) (by decide) rfl ?_
  intro p e s m args below meth c s₁ B hml hT hv
  obtain ⟨rfl, hE, hLo, hWd⟩ := hv
  have hr : meth.sig.returnType = (some .int) := B.returns
  have C : Cx l g p s m meth c cX11_reason 3 RX11 := ⟨B.exec, B.bytes, hml, findClass_of_methodNamed B.named, hE, hLo, B.notSynchronized⟩
  have S : S2 g s σ R L s.heap [] := ⟨hWd, va_S.rf⟩
  have hx := C.1
  have hb := C.2.1
  have hl := lv_entry ([.ref (ga g x0), .int x1, .int x2]) (n := 3) (Nat.le_of_ble_eq_true rfl)
  rw [lg_entry_eq]
  generalize (lg_sl ([.ref (ga g x0), .int x1, .int x2]) ++ List.replicate (3 - (lg_sl ([.ref (ga g x0), .int x1, .int x2])).length) Slot.unset).toArray = ls at hl ⊢
  have hl : lv_has ls 3 [(0, .ref (ga g x0)), (1, .int x1), (2, .int x2)] := hl
  generalize hH : s.heap = H at S ⊢
  generalize hlc : ([] : List Loc) = locs at S ⊢
  rw [f_X11_reason] at h
  refine lv_aload_n hx hb dX11_reason_0 rfl (lv_at hl 0 rfl) ?_
  refine lv_iload_n hx hb dX11_reason_1 rfl (lv_at hl 1 rfl) ?_
  rcases bdX_el h with ⟨a2, σ2, hc2, h⟩ | ⟨q2, σ2, hc2, hr2⟩
  · refine x_callXV C S KX11 hx0 (ok_X11_needBlast (L := L) hc2 hSh hx0) ⟨cd_X11_needBlast, ni_RX11, ml_RX11_225, in_X11_needBlast, sl_X11_needBlast⟩ ⟨by decide, by decide⟩ rfl (rm_ok (by decide) (by decide)) hl.1 rfl (Nat.le_of_ble_eq_true rfl) ⟨by decide, by decide⟩ dX11_reason_2 hT ⟨by decide, by decide⟩ (fun H locs S => ?_)
    refine lv_aload_n hx hb dX11_reason_5 rfl (lv_at hl 0 rfl) ?_
    refine lv_iload_n hx hb dX11_reason_6 rfl (lv_at hl 2 rfl) ?_
    refine lv_iconst (v := (0 : Int32)) hx hb dX11_reason_7 (by decide) ?_
    refine lv_sipush (v := (1439 : Int32)) hx hb dX11_reason_8 (by decide) ?_
    rcases bdX_el h with ⟨a4, σ4, hc4, h⟩ | ⟨q4, σ4, hc4, hr4⟩
    · refine x_callXV C S KX11 hx0 (ok_X11_needRange (L := L) hc4 hSh hx0) ⟨cd_X11_needRange, ni_RX11, ml_RX11_176, in_X11_needRange, sl_X11_needRange⟩ ⟨by decide, by decide⟩ rfl (rm_ok (by decide) (by decide)) hl.1 rfl (Nat.le_of_ble_eq_true rfl) ⟨by decide, by decide⟩ dX11_reason_11 hT ⟨by decide, by decide⟩ (fun H locs S => ?_)
      refine lv_aload_n hx hb dX11_reason_14 rfl (lv_at hl 0 rfl) ?_
      have hR5 : Ok 202 (R x0 8) 9 := hSh x0 11 8 9 hx0.1 rfl
      refine x_getR C S KX11 hx0 8 (by decide) rfl rfl fl_RX11_61 hR5 dX11_reason_15 ?_
      refine lv_iload_n hx hb dX11_reason_18 rfl (lv_at hl 1 rfl) ?_
      refine lv_iload_n hx hb dX11_reason_19 rfl (lv_at hl 2 rfl) ?_
      refine lv_aload_n hx hb dX11_reason_20 rfl (lv_at hl 0 rfl) ?_
      have hR6 : Ok 202 (R x0 8) 9 := hSh x0 11 8 9 hx0.1 rfl
      refine x_getR C S KX11 hx0 8 (by decide) rfl rfl fl_RX11_61 hR6 dX11_reason_21 ?_
      have hR7 : Ok 202 (R (R x0 8) 6) 10006 := hSh (R x0 8) 9 6 10006 hR6.1 rfl
      refine x_getR C S KX9 hR6 6 (by decide) rfl rfl fl_RX11_228 hR7 dX11_reason_24 ?_
      obtain ⟨a8, σ8, hc8, h⟩ := bd_el h
      refine x_callVI C S KX9 hR5 (ok_X9_reasonAgainst (L := L) hc8 hSh hR5 hR7) ⟨cd_X9_reasonAgainst, ni_RX9, ml_RX11_235, in_X9_reasonAgainst, sl_X9_reasonAgainst⟩ ⟨by decide, by decide⟩ rfl (rm_ok (by decide) (by decide)) hl.1 rfl (Nat.le_of_ble_eq_true rfl) ⟨by decide, by decide⟩ dX11_reason_27 (fun H locs S => ?_)
      exact x_iretX C S hr (by decide) (by decide) h dX11_reason_30
    · exact x_callXX C S KX11 hx0 (ok_X11_needRange (L := L) hc4 hSh hx0) n_PVX ⟨cd_X11_needRange, ni_RX11, ml_RX11_176, in_X11_needRange, sl_X11_needRange⟩ ⟨by decide, by decide⟩ rfl (rm_ok (by decide) (by decide)) hl.1 rfl (Nat.le_of_ble_eq_true rfl) ⟨by decide, by decide⟩ dX11_reason_11 hT ⟨by decide, by decide⟩ hr4
  · exact x_callXX C S KX11 hx0 (ok_X11_needBlast (L := L) hc2 hSh hx0) n_PVX ⟨cd_X11_needBlast, ni_RX11, ml_RX11_225, in_X11_needBlast, sl_X11_needBlast⟩ ⟨by decide, by decide⟩ rfl (rm_ok (by decide) (by decide)) hl.1 rfl (Nat.le_of_ble_eq_true rfl) ⟨by decide, by decide⟩ dX11_reason_2 hT ⟨by decide, by decide⟩ hr2
theorem dX5_parseWind_0 : decode cX5_parseWind 0 = .ok (.aload_n 0, 1) := by decide +kernel
theorem dX5_parseWind_1 : decode cX5_parseWind 1 = .ok (.getfield 12, 3) := by decide +kernel
theorem dX5_parseWind_4 : decode cX5_parseWind 4 = .ok (.iconst 0, 1) := by decide +kernel
theorem dX5_parseWind_5 : decode cX5_parseWind 5 = .ok (.bipush 23, 2) := by decide +kernel
theorem dX5_parseWind_7 : decode cX5_parseWind 7 = .ok (.invokevirtual 73, 3) := by decide +kernel
theorem dX5_parseWind_10 : decode cX5_parseWind 10 = .ok (.istore_n 2, 1) := by decide +kernel
theorem dX5_parseWind_11 : decode cX5_parseWind 11 = .ok (.aload_n 0, 1) := by decide +kernel
theorem dX5_parseWind_12 : decode cX5_parseWind 12 = .ok (.getfield 12, 3) := by decide +kernel
theorem dX5_parseWind_15 : decode cX5_parseWind 15 = .ok (.iconst 0, 1) := by decide +kernel
theorem dX5_parseWind_16 : decode cX5_parseWind 16 = .ok (.bipush 7, 2) := by decide +kernel
theorem dX5_parseWind_18 : decode cX5_parseWind 18 = .ok (.invokevirtual 73, 3) := by decide +kernel
theorem dX5_parseWind_21 : decode cX5_parseWind 21 = .ok (.istore_n 3, 1) := by decide +kernel
theorem dX5_parseWind_22 : decode cX5_parseWind 22 = .ok (.aload_n 0, 1) := by decide +kernel
theorem dX5_parseWind_23 : decode cX5_parseWind 23 = .ok (.getfield 12, 3) := by decide +kernel
theorem dX5_parseWind_26 : decode cX5_parseWind 26 = .ok (.iconst 0, 1) := by decide +kernel
theorem dX5_parseWind_27 : decode cX5_parseWind 27 = .ok (.bipush 20, 2) := by decide +kernel
theorem dX5_parseWind_29 : decode cX5_parseWind 29 = .ok (.invokevirtual 73, 3) := by decide +kernel
theorem dX5_parseWind_32 : decode cX5_parseWind 32 = .ok (.istore 4, 2) := by decide +kernel
theorem dX5_parseWind_34 : decode cX5_parseWind 34 = .ok (.aload_n 0, 1) := by decide +kernel
theorem dX5_parseWind_35 : decode cX5_parseWind 35 = .ok (.getfield 12, 3) := by decide +kernel
theorem dX5_parseWind_38 : decode cX5_parseWind 38 = .ok (.invokevirtual 26, 3) := by decide +kernel
theorem dX5_parseWind_41 : decode cX5_parseWind 41 = .ok (.ifCond .ne 28, 3) := by decide +kernel
theorem dX5_parseWind_44 : decode cX5_parseWind 44 = .ok (.iload_n 2, 1) := by decide +kernel
theorem dX5_parseWind_45 : decode cX5_parseWind 45 = .ok (.ifCond .lt 24, 3) := by decide +kernel
theorem dX5_parseWind_48 : decode cX5_parseWind 48 = .ok (.iload_n 2, 1) := by decide +kernel
theorem dX5_parseWind_49 : decode cX5_parseWind 49 = .ok (.bipush 24, 2) := by decide +kernel
theorem dX5_parseWind_51 : decode cX5_parseWind 51 = .ok (.if_icmp .ge 18, 3) := by decide +kernel
theorem dX5_parseWind_54 : decode cX5_parseWind 54 = .ok (.aload_n 1, 1) := by decide +kernel
theorem dX5_parseWind_55 : decode cX5_parseWind 55 = .ok (.getfield 105, 3) := by decide +kernel
theorem dX5_parseWind_58 : decode cX5_parseWind 58 = .ok (.iload_n 2, 1) := by decide +kernel
theorem dX5_parseWind_59 : decode cX5_parseWind 59 = .ok (.iload_n 3, 1) := by decide +kernel
theorem dX5_parseWind_60 : decode cX5_parseWind 60 = .ok (.iastore, 1) := by decide +kernel
theorem dX5_parseWind_61 : decode cX5_parseWind 61 = .ok (.aload_n 1, 1) := by decide +kernel
theorem dX5_parseWind_62 : decode cX5_parseWind 62 = .ok (.getfield 109, 3) := by decide +kernel
theorem dX5_parseWind_65 : decode cX5_parseWind 65 = .ok (.iload_n 2, 1) := by decide +kernel
theorem dX5_parseWind_66 : decode cX5_parseWind 66 = .ok (.iload 4, 2) := by decide +kernel
theorem dX5_parseWind_68 : decode cX5_parseWind 68 = .ok (.iastore, 1) := by decide +kernel
theorem dX5_parseWind_69 : decode cX5_parseWind 69 = .ok (.return_, 1) := by decide +kernel
def f_X5_parseWind (N : Nat) (R : Nat → Nat → Nat) (σ : SI) (x0 : Nat) (x1 : Nat) : Option (Unit × SI) := bd (f_X10_takeNumber N R σ (R x0 0) (0 : Int32) (23 : Int32)) (fun a2 σ2 => bd (f_X10_takeNumber N R σ2 (R x0 0) (0 : Int32) (7 : Int32)) (fun a4 σ4 => bd (f_X10_takeNumber N R σ4 (R x0 0) (0 : Int32) (20 : Int32)) (fun a6 σ6 => bd (f_X10_failed N R σ6 (R x0 0)) (fun a8 σ8 => if a8 = 0 then (if a2 < 0 then (some ((), σ8)) else (if (24 : Int32) ≤ a2 then (some ((), σ8)) else (ck a2 24 (sq (up σ8 (R x1 7) a2.toNatClampNeg a4) (fun σ14 => ck a2 24 (sq (up σ14 (R x1 8) a2.toNatClampNeg a6) (fun σ17 => some ((), σ17)))))))) else (some ((), σ8))))))
set_option maxHeartbeats 4000000 in
set_option maxRecDepth 100000 in
theorem ok_X5_parseWind {l : Launch} {g : GL} {R : Nat → Nat → Nat} {L : Nat → Nat → Int64} {N : Nat} {σ : SI} {x0 : Nat} {x1 : Nat} {r : (Unit × SI)} (h : f_X5_parseWind N R σ x0 x1 = some r) (hSh : ShR R) (hx0 : Ok 202 x0 5) (hx1 : Ok 202 x1 9) : Ct l g 3 yX5_parseWind cX5_parseWind 5 none 202 202 0 0 [.ref (ga g x0), .ref (ga g x1)] (mkS σ R L) (PV R L r) := by
  refine Met.ofW (cc := cX5_parseWind) (maxL := 5) (ret := none) (by decide) rfl ?_
  intro p e s m args below meth c s₁ B hml hv
  obtain ⟨rfl, hE, hLo, hWd⟩ := hv
  have hr : meth.sig.returnType = none := B.returns
  have C : Cx l g p s m meth c cX5_parseWind 5 RX5 := ⟨B.exec, B.bytes, hml, findClass_of_methodNamed B.named, hE, hLo, B.notSynchronized⟩
  have S : S2 g s σ R L s.heap [] := ⟨hWd, va_S.rf⟩
  have hx := C.1
  have hb := C.2.1
  have hl := lv_entry ([.ref (ga g x0), .ref (ga g x1)]) (n := 5) (Nat.le_of_ble_eq_true rfl)
  rw [lg_entry_eq]
  generalize (lg_sl ([.ref (ga g x0), .ref (ga g x1)]) ++ List.replicate (5 - (lg_sl ([.ref (ga g x0), .ref (ga g x1)])).length) Slot.unset).toArray = ls at hl ⊢
  have hl : lv_has ls 5 [(0, .ref (ga g x0)), (1, .ref (ga g x1))] := hl
  generalize hH : s.heap = H at S ⊢
  generalize hlc : ([] : List Loc) = locs at S ⊢
  rw [f_X5_parseWind] at h
  refine lv_aload_n hx hb dX5_parseWind_0 rfl (lv_at hl 0 rfl) ?_
  have hR1 : Ok 202 (R x0 0) 10 := hSh x0 5 0 10 hx0.1 rfl
  refine x_getR C S KX5 hx0 0 (by decide) rfl rfl fl_RX5_12 hR1 dX5_parseWind_1 ?_
  refine lv_iconst (v := (0 : Int32)) hx hb dX5_parseWind_4 (by decide) ?_
  refine lv_bipush (v := (23 : Int32)) hx hb dX5_parseWind_5 (by decide) ?_
  obtain ⟨a2, σ2, hc2, h⟩ := bd_el h
  refine x_callVI C S KX10 hR1 (ok_X10_takeNumber (L := L) hc2 hSh hR1) ⟨cd_X10_takeNumber, ni_RX10, ml_RX5_73, in_X10_takeNumber, sl_X10_takeNumber⟩ ⟨by decide, by decide⟩ rfl (rm_ok (by decide) (by decide)) hl.1 rfl (Nat.le_of_ble_eq_true rfl) ⟨by decide, by decide⟩ dX5_parseWind_7 (fun H locs S => ?_)
  refine lv_istore_n (lv' := [(2, .int a2), (0, .ref (ga g x0)), (1, .ref (ga g x1))]) hx hb dX5_parseWind_10 rfl hl (by decide) rfl (fun ls hl => ?_)
  refine lv_aload_n hx hb dX5_parseWind_11 rfl (lv_at hl 1 rfl) ?_
  have hR3 : Ok 202 (R x0 0) 10 := hSh x0 5 0 10 hx0.1 rfl
  refine x_getR C S KX5 hx0 0 (by decide) rfl rfl fl_RX5_12 hR3 dX5_parseWind_12 ?_
  refine lv_iconst (v := (0 : Int32)) hx hb dX5_parseWind_15 (by decide) ?_
  refine lv_bipush (v := (7 : Int32)) hx hb dX5_parseWind_16 (by decide) ?_
  obtain ⟨a4, σ4, hc4, h⟩ := bd_el h
  refine x_callVI C S KX10 hR3 (ok_X10_takeNumber (L := L) hc4 hSh hR3) ⟨cd_X10_takeNumber, ni_RX10, ml_RX5_73, in_X10_takeNumber, sl_X10_takeNumber⟩ ⟨by decide, by decide⟩ rfl (rm_ok (by decide) (by decide)) hl.1 rfl (Nat.le_of_ble_eq_true rfl) ⟨by decide, by decide⟩ dX5_parseWind_18 (fun H locs S => ?_)
  refine lv_istore_n (lv' := [(3, .int a4), (2, .int a2), (0, .ref (ga g x0)), (1, .ref (ga g x1))]) hx hb dX5_parseWind_21 rfl hl (by decide) rfl (fun ls hl => ?_)
  refine lv_aload_n hx hb dX5_parseWind_22 rfl (lv_at hl 2 rfl) ?_
  have hR5 : Ok 202 (R x0 0) 10 := hSh x0 5 0 10 hx0.1 rfl
  refine x_getR C S KX5 hx0 0 (by decide) rfl rfl fl_RX5_12 hR5 dX5_parseWind_23 ?_
  refine lv_iconst (v := (0 : Int32)) hx hb dX5_parseWind_26 (by decide) ?_
  refine lv_bipush (v := (20 : Int32)) hx hb dX5_parseWind_27 (by decide) ?_
  obtain ⟨a6, σ6, hc6, h⟩ := bd_el h
  refine x_callVI C S KX10 hR5 (ok_X10_takeNumber (L := L) hc6 hSh hR5) ⟨cd_X10_takeNumber, ni_RX10, ml_RX5_73, in_X10_takeNumber, sl_X10_takeNumber⟩ ⟨by decide, by decide⟩ rfl (rm_ok (by decide) (by decide)) hl.1 rfl (Nat.le_of_ble_eq_true rfl) ⟨by decide, by decide⟩ dX5_parseWind_29 (fun H locs S => ?_)
  refine lv_istore (lv' := [(4, .int a6), (3, .int a4), (2, .int a2), (0, .ref (ga g x0)), (1, .ref (ga g x1))]) hx hb dX5_parseWind_32 hl (by decide) rfl (fun ls hl => ?_)
  refine lv_aload_n hx hb dX5_parseWind_34 rfl (lv_at hl 3 rfl) ?_
  have hR7 : Ok 202 (R x0 0) 10 := hSh x0 5 0 10 hx0.1 rfl
  refine x_getR C S KX5 hx0 0 (by decide) rfl rfl fl_RX5_12 hR7 dX5_parseWind_35 ?_
  obtain ⟨a8, σ8, hc8, h⟩ := bd_el h
  refine x_callVI C S KX10 hR7 (ok_X10_failed (L := L) hc8 hSh hR7) ⟨cd_X10_failed, ni_RX10, ml_RX5_26, in_X10_failed, sl_X10_failed⟩ ⟨by decide, by decide⟩ rfl (rm_ok (by decide) (by decide)) hl.1 rfl (Nat.le_of_ble_eq_true rfl) ⟨by decide, by decide⟩ dX5_parseWind_38 (fun H locs S => ?_)
  refine lv_if_ne (tgt := 69) hx hb dX5_parseWind_41 (by decide) (fun c9 => ?_) (fun c9 => ?_)
  · have h := it_n c9 h
    exact x_vret C S hr h dX5_parseWind_69
  · have h := it_p c9 h
    refine lv_iload_n hx hb dX5_parseWind_44 rfl (lv_at hl 2 rfl) ?_
    refine lv_if_lt (tgt := 69) hx hb dX5_parseWind_45 (by decide) (fun c10 => ?_) (fun c10 => ?_)
    · have h := it_p c10 h
      exact x_vret C S hr h dX5_parseWind_69
    · have h := it_n c10 h
      refine lv_iload_n hx hb dX5_parseWind_48 rfl (lv_at hl 2 rfl) ?_
      refine lv_bipush (v := (24 : Int32)) hx hb dX5_parseWind_49 (by decide) ?_
      refine lv_icmp_ge (tgt := 69) hx hb dX5_parseWind_51 (by decide) (fun c11 => ?_) (fun c11 => ?_)
      · have h := it_p c11 h
        exact x_vret C S hr h dX5_parseWind_69
      · have h := it_n c11 h
        refine lv_aload_n hx hb dX5_parseWind_54 rfl (lv_at hl 4 rfl) ?_
        have hR12 : Ok 202 (R x1 7) 10024 := hSh x1 9 7 10024 hx1.1 rfl
        refine x_getR C S KX9 hx1 7 (by decide) rfl rfl fl_RX5_105 hR12 dX5_parseWind_55 ?_
        refine lv_iload_n hx hb dX5_parseWind_58 rfl (lv_at hl 2 rfl) ?_
        refine lv_iload_n hx hb dX5_parseWind_59 rfl (lv_at hl 1 rfl) ?_
        obtain ⟨hi13, h⟩ := ck_el h
        obtain ⟨σ14, hs14, h⟩ := sq_el h
        refine x_iast (len := 24) C S (by decide) hR12 hi13 dX5_parseWind_60 hs14 (fun H locs S => ?_)
        refine lv_aload_n hx hb dX5_parseWind_61 rfl (lv_at hl 4 rfl) ?_
        have hR15 : Ok 202 (R x1 8) 10024 := hSh x1 9 8 10024 hx1.1 rfl
        refine x_getR C S KX9 hx1 8 (by decide) rfl rfl fl_RX5_109 hR15 dX5_parseWind_62 ?_
        refine lv_iload_n hx hb dX5_parseWind_65 rfl (lv_at hl 2 rfl) ?_
        refine lv_iload hx hb dX5_parseWind_66 (lv_at hl 0 rfl) ?_
        obtain ⟨hi16, h⟩ := ck_el h
        obtain ⟨σ17, hs17, h⟩ := sq_el h
        refine x_iast (len := 24) C S (by decide) hR15 hi16 dX5_parseWind_68 hs17 (fun H locs S => ?_)
        exact x_vret C S hr h dX5_parseWind_69
theorem dX5_parseWindow_0 : decode cX5_parseWindow 0 = .ok (.aload_n 1, 1) := by decide +kernel
theorem dX5_parseWindow_1 : decode cX5_parseWindow 1 = .ok (.getfield 142, 3) := by decide +kernel
theorem dX5_parseWindow_4 : decode cX5_parseWindow 4 = .ok (.iconst 4, 1) := by decide +kernel
theorem dX5_parseWindow_5 : decode cX5_parseWindow 5 = .ok (.if_icmp .lt 19, 3) := by decide +kernel
theorem dX5_parseWindow_8 : decode cX5_parseWindow 8 = .ok (.aload_n 0, 1) := by decide +kernel
theorem dX5_parseWindow_9 : decode cX5_parseWindow 9 = .ok (.getfield 12, 3) := by decide +kernel
theorem dX5_parseWindow_12 : decode cX5_parseWindow 12 = .ok (.aload_n 0, 1) := by decide +kernel
theorem dX5_parseWindow_13 : decode cX5_parseWindow 13 = .ok (.getfield 12, 3) := by decide +kernel
theorem dX5_parseWindow_16 : decode cX5_parseWindow 16 = .ok (.getfield 44, 3) := by decide +kernel
theorem dX5_parseWindow_19 : decode cX5_parseWindow 19 = .ok (.iconst 4, 1) := by decide +kernel
theorem dX5_parseWindow_20 : decode cX5_parseWindow 20 = .ok (.invokevirtual 115, 3) := by decide +kernel
theorem dX5_parseWindow_23 : decode cX5_parseWindow 23 = .ok (.return_, 1) := by decide +kernel
theorem dX5_parseWindow_24 : decode cX5_parseWindow 24 = .ok (.aload_n 0, 1) := by decide +kernel
theorem dX5_parseWindow_25 : decode cX5_parseWindow 25 = .ok (.getfield 12, 3) := by decide +kernel
theorem dX5_parseWindow_28 : decode cX5_parseWindow 28 = .ok (.iconst 0, 1) := by decide +kernel
theorem dX5_parseWindow_29 : decode cX5_parseWindow 29 = .ok (.sipush 1439, 3) := by decide +kernel
theorem dX5_parseWindow_32 : decode cX5_parseWindow 32 = .ok (.invokevirtual 73, 3) := by decide +kernel
theorem dX5_parseWindow_35 : decode cX5_parseWindow 35 = .ok (.istore_n 2, 1) := by decide +kernel
theorem dX5_parseWindow_36 : decode cX5_parseWindow 36 = .ok (.aload_n 0, 1) := by decide +kernel
theorem dX5_parseWindow_37 : decode cX5_parseWindow 37 = .ok (.getfield 12, 3) := by decide +kernel
theorem dX5_parseWindow_40 : decode cX5_parseWindow 40 = .ok (.aload_n 0, 1) := by decide +kernel
theorem dX5_parseWindow_41 : decode cX5_parseWindow 41 = .ok (.getfield 12, 3) := by decide +kernel
theorem dX5_parseWindow_44 : decode cX5_parseWindow 44 = .ok (.ldc 152, 2) := by decide +kernel
theorem dX5_parseWindow_46 : decode cX5_parseWindow 46 = .ok (.invokevirtual 50, 3) := by decide +kernel
theorem dX5_parseWindow_49 : decode cX5_parseWindow 49 = .ok (.invokevirtual 40, 3) := by decide +kernel
theorem dX5_parseWindow_52 : decode cX5_parseWindow 52 = .ok (.aload_n 0, 1) := by decide +kernel
theorem dX5_parseWindow_53 : decode cX5_parseWindow 53 = .ok (.getfield 12, 3) := by decide +kernel
theorem dX5_parseWindow_56 : decode cX5_parseWindow 56 = .ok (.iload_n 2, 1) := by decide +kernel
theorem dX5_parseWindow_57 : decode cX5_parseWindow 57 = .ok (.iconst 1, 1) := by decide +kernel
theorem dX5_parseWindow_58 : decode cX5_parseWindow 58 = .ok (.iadd, 1) := by decide +kernel
theorem dX5_parseWindow_59 : decode cX5_parseWindow 59 = .ok (.sipush 1440, 3) := by decide +kernel
theorem dX5_parseWindow_62 : decode cX5_parseWindow 62 = .ok (.invokevirtual 73, 3) := by decide +kernel
theorem dX5_parseWindow_65 : decode cX5_parseWindow 65 = .ok (.istore_n 3, 1) := by decide +kernel
theorem dX5_parseWindow_66 : decode cX5_parseWindow 66 = .ok (.aload_n 1, 1) := by decide +kernel
theorem dX5_parseWindow_67 : decode cX5_parseWindow 67 = .ok (.iload_n 2, 1) := by decide +kernel
theorem dX5_parseWindow_68 : decode cX5_parseWindow 68 = .ok (.iload_n 3, 1) := by decide +kernel
theorem dX5_parseWindow_69 : decode cX5_parseWindow 69 = .ok (.invokevirtual 154, 3) := by decide +kernel
theorem dX5_parseWindow_72 : decode cX5_parseWindow 72 = .ok (.return_, 1) := by decide +kernel
def f_X5_parseWindow (N : Nat) (R : Nat → Nat → Nat) (σ : SI) (x0 : Nat) (x1 : Nat) : Option (Unit × SI) := if (σ x1 5) < (4 : Int32) then (bd (f_X10_takeNumber N R σ (R x0 0) (0 : Int32) (1439 : Int32)) (fun a3 σ3 => bd (f_X10_tookWord N R σ3 (R x0 0) 1) (fun a6 σ6 => bd (f_X10_need N R σ6 (R x0 0) a6) (fun _ σ7 => bd (f_X10_takeNumber N R σ7 (R x0 0) (a3 + (1 : Int32)) (1440 : Int32)) (fun a9 σ9 => bd (f_X4_addWindow N R σ9 x1 a3 a9) (fun _ σ10 => some ((), σ10))))))) else (bd (f_X10_fail N R σ (R x0 0) (σ (R x0 0) 2) (4 : Int32)) (fun _ σ13 => some ((), σ13)))
set_option maxHeartbeats 4000000 in
set_option maxRecDepth 100000 in
theorem ok_X5_parseWindow {l : Launch} {g : GL} {R : Nat → Nat → Nat} {L : Nat → Nat → Int64} {N : Nat} {σ : SI} {x0 : Nat} {x1 : Nat} {r : (Unit × SI)} (h : f_X5_parseWindow N R σ x0 x1 = some r) (hSh : ShR R) (hx0 : Ok 202 x0 5) (hx1 : Ok 202 x1 4) : Ct l g 6 yX5_parseWindow cX5_parseWindow 4 none 202 202 0 0 [.ref (ga g x0), .ref (ga g x1)] (mkS σ R L) (PV R L r) := by
  refine Met.ofW (cc := cX5_parseWindow) (maxL := 4) (ret := none) (by decide) rfl ?_
  intro p e s m args below meth c s₁ B hml hv
  obtain ⟨rfl, hE, hLo, hWd⟩ := hv
  have hr : meth.sig.returnType = none := B.returns
  have C : Cx l g p s m meth c cX5_parseWindow 4 RX5 := ⟨B.exec, B.bytes, hml, findClass_of_methodNamed B.named, hE, hLo, B.notSynchronized⟩
  have S : S2 g s σ R L s.heap [] := ⟨hWd, va_S.rf⟩
  have hx := C.1
  have hb := C.2.1
  have hl := lv_entry ([.ref (ga g x0), .ref (ga g x1)]) (n := 4) (Nat.le_of_ble_eq_true rfl)
  rw [lg_entry_eq]
  generalize (lg_sl ([.ref (ga g x0), .ref (ga g x1)]) ++ List.replicate (4 - (lg_sl ([.ref (ga g x0), .ref (ga g x1)])).length) Slot.unset).toArray = ls at hl ⊢
  have hl : lv_has ls 4 [(0, .ref (ga g x0)), (1, .ref (ga g x1))] := hl
  generalize hH : s.heap = H at S ⊢
  generalize hlc : ([] : List Loc) = locs at S ⊢
  rw [f_X5_parseWindow] at h
  refine lv_aload_n hx hb dX5_parseWindow_0 rfl (lv_at hl 1 rfl) ?_
  refine x_getI C S KX4 hx1 5 (by decide) rfl rfl fl_RX5_142 dX5_parseWindow_1 ?_
  refine lv_iconst (v := (4 : Int32)) hx hb dX5_parseWindow_4 (by decide) ?_
  refine lv_icmp_lt (tgt := 24) hx hb dX5_parseWindow_5 (by decide) (fun c1 => ?_) (fun c1 => ?_)
  · have h := it_p c1 h
    refine lv_aload_n hx hb dX5_parseWindow_24 rfl (lv_at hl 0 rfl) ?_
    have hR2 : Ok 202 (R x0 0) 10 := hSh x0 5 0 10 hx0.1 rfl
    refine x_getR C S KX5 hx0 0 (by decide) rfl rfl fl_RX5_12 hR2 dX5_parseWindow_25 ?_
    refine lv_iconst (v := (0 : Int32)) hx hb dX5_parseWindow_28 (by decide) ?_
    refine lv_sipush (v := (1439 : Int32)) hx hb dX5_parseWindow_29 (by decide) ?_
    obtain ⟨a3, σ3, hc3, h⟩ := bd_el h
    refine x_callVI C S KX10 hR2 (ok_X10_takeNumber (L := L) hc3 hSh hR2) ⟨cd_X10_takeNumber, ni_RX10, ml_RX5_73, in_X10_takeNumber, sl_X10_takeNumber⟩ ⟨by decide, by decide⟩ rfl (rm_ok (by decide) (by decide)) hl.1 rfl (Nat.le_of_ble_eq_true rfl) ⟨by decide, by decide⟩ dX5_parseWindow_32 (fun H locs S => ?_)
    refine lv_istore_n (lv' := [(2, .int a3), (0, .ref (ga g x0)), (1, .ref (ga g x1))]) hx hb dX5_parseWindow_35 rfl hl (by decide) rfl (fun ls hl => ?_)
    refine lv_aload_n hx hb dX5_parseWindow_36 rfl (lv_at hl 1 rfl) ?_
    have hR4 : Ok 202 (R x0 0) 10 := hSh x0 5 0 10 hx0.1 rfl
    refine x_getR C S KX5 hx0 0 (by decide) rfl rfl fl_RX5_12 hR4 dX5_parseWindow_37 ?_
    refine lv_aload_n hx hb dX5_parseWindow_40 rfl (lv_at hl 1 rfl) ?_
    have hR5 : Ok 202 (R x0 0) 10 := hSh x0 5 0 10 hx0.1 rfl
    refine x_getR C S KX5 hx0 0 (by decide) rfl rfl fl_RX5_12 hR5 dX5_parseWindow_41 ?_
    refine x_ldcs C (k := 152) (tx := "to") (ia := 1) (by decide) dX5_parseWindow_44 ?_
    obtain ⟨a6, σ6, hc6, h⟩ := bd_el h
    refine x_callVI C S KX10 hR5 (ok_X10_tookWord (L := L) hc6 hSh hR5 (by decide)) ⟨cd_X10_tookWord, ni_RX10, ml_RX5_50, in_X10_tookWord, sl_X10_tookWord⟩ ⟨by decide, by decide⟩ rfl (rm_ok (by decide) (by decide)) hl.1 rfl (Nat.le_of_ble_eq_true rfl) ⟨by decide, by decide⟩ dX5_parseWindow_46 (fun H locs S => ?_)
    obtain ⟨a7, σ7, hc7, h⟩ := bd_el h
    refine x_callVV C S KX10 hR4 (ok_X10_need (L := L) hc7 hSh hR4) ⟨cd_X10_need, ni_RX10, ml_RX5_40, in_X10_need, sl_X10_need⟩ ⟨by decide, by decide⟩ rfl (rm_ok (by decide) (by decide)) hl.1 rfl (Nat.le_of_ble_eq_true rfl) ⟨by decide, by decide⟩ dX5_parseWindow_49 (fun H locs S => ?_)
    refine lv_aload_n hx hb dX5_parseWindow_52 rfl (lv_at hl 1 rfl) ?_
    have hR8 : Ok 202 (R x0 0) 10 := hSh x0 5 0 10 hx0.1 rfl
    refine x_getR C S KX5 hx0 0 (by decide) rfl rfl fl_RX5_12 hR8 dX5_parseWindow_53 ?_
    refine lv_iload_n hx hb dX5_parseWindow_56 rfl (lv_at hl 0 rfl) ?_
    refine lv_iconst (v := (1 : Int32)) hx hb dX5_parseWindow_57 (by decide) ?_
    refine lv_iadd hx hb dX5_parseWindow_58 ?_
    refine lv_sipush (v := (1440 : Int32)) hx hb dX5_parseWindow_59 (by decide) ?_
    obtain ⟨a9, σ9, hc9, h⟩ := bd_el h
    refine x_callVI C S KX10 hR8 (ok_X10_takeNumber (L := L) hc9 hSh hR8) ⟨cd_X10_takeNumber, ni_RX10, ml_RX5_73, in_X10_takeNumber, sl_X10_takeNumber⟩ ⟨by decide, by decide⟩ rfl (rm_ok (by decide) (by decide)) hl.1 rfl (Nat.le_of_ble_eq_true rfl) ⟨by decide, by decide⟩ dX5_parseWindow_62 (fun H locs S => ?_)
    refine lv_istore_n (lv' := [(3, .int a9), (2, .int a3), (0, .ref (ga g x0)), (1, .ref (ga g x1))]) hx hb dX5_parseWindow_65 rfl hl (by decide) rfl (fun ls hl => ?_)
    refine lv_aload_n hx hb dX5_parseWindow_66 rfl (lv_at hl 3 rfl) ?_
    refine lv_iload_n hx hb dX5_parseWindow_67 rfl (lv_at hl 1 rfl) ?_
    refine lv_iload_n hx hb dX5_parseWindow_68 rfl (lv_at hl 0 rfl) ?_
    obtain ⟨a10, σ10, hc10, h⟩ := bd_el h
    refine x_callVV C S KX4 hx1 (ok_X4_addWindow (L := L) hc10 hSh hx1) ⟨cd_X4_addWindow, ni_RX4, ml_RX5_154, in_X4_addWindow, sl_X4_addWindow⟩ ⟨by decide, by decide⟩ rfl (rm_ok (by decide) (by decide)) hl.1 rfl (Nat.le_of_ble_eq_true rfl) ⟨by decide, by decide⟩ dX5_parseWindow_69 (fun H locs S => ?_)
    exact x_vret C S hr h dX5_parseWindow_72
  · have h := it_n c1 h
    refine lv_aload_n hx hb dX5_parseWindow_8 rfl (lv_at hl 0 rfl) ?_
    have hR11 : Ok 202 (R x0 0) 10 := hSh x0 5 0 10 hx0.1 rfl
    refine x_getR C S KX5 hx0 0 (by decide) rfl rfl fl_RX5_12 hR11 dX5_parseWindow_9 ?_
    refine lv_aload_n hx hb dX5_parseWindow_12 rfl (lv_at hl 0 rfl) ?_
    have hR12 : Ok 202 (R x0 0) 10 := hSh x0 5 0 10 hx0.1 rfl
    refine x_getR C S KX5 hx0 0 (by decide) rfl rfl fl_RX5_12 hR12 dX5_parseWindow_13 ?_
    refine x_getI C S KX10 hR12 2 (by decide) rfl rfl fl_RX5_44 dX5_parseWindow_16 ?_
    refine lv_iconst (v := (4 : Int32)) hx hb dX5_parseWindow_19 (by decide) ?_
    obtain ⟨a13, σ13, hc13, h⟩ := bd_el h
    refine x_callVV C S KX10 hR11 (ok_X10_fail (L := L) hc13 hSh hR11) ⟨cd_X10_fail, ni_RX10, ml_RX5_115, in_X10_fail, sl_X10_fail⟩ ⟨by decide, by decide⟩ rfl (rm_ok (by decide) (by decide)) hl.1 rfl (Nat.le_of_ble_eq_true rfl) ⟨by decide, by decide⟩ dX5_parseWindow_20 (fun H locs S => ?_)
    exact x_vret C S hr h dX5_parseWindow_23
theorem dX5_parseRoad_0 : decode cX5_parseRoad 0 = .ok (.aload_n 1, 1) := by decide +kernel
theorem dX5_parseRoad_1 : decode cX5_parseRoad 1 = .ok (.getfield 157, 3) := by decide +kernel
theorem dX5_parseRoad_4 : decode cX5_parseRoad 4 = .ok (.bipush 6, 2) := by decide +kernel
theorem dX5_parseRoad_6 : decode cX5_parseRoad 6 = .ok (.if_icmp .lt 13, 3) := by decide +kernel
theorem dX5_parseRoad_9 : decode cX5_parseRoad 9 = .ok (.aload_n 0, 1) := by decide +kernel
theorem dX5_parseRoad_10 : decode cX5_parseRoad 10 = .ok (.getfield 12, 3) := by decide +kernel
theorem dX5_parseRoad_13 : decode cX5_parseRoad 13 = .ok (.iload_n 2, 1) := by decide +kernel
theorem dX5_parseRoad_14 : decode cX5_parseRoad 14 = .ok (.iconst 4, 1) := by decide +kernel
theorem dX5_parseRoad_15 : decode cX5_parseRoad 15 = .ok (.invokevirtual 115, 3) := by decide +kernel
theorem dX5_parseRoad_18 : decode cX5_parseRoad 18 = .ok (.return_, 1) := by decide +kernel
theorem dX5_parseRoad_19 : decode cX5_parseRoad 19 = .ok (.aload_n 1, 1) := by decide +kernel
theorem dX5_parseRoad_20 : decode cX5_parseRoad 20 = .ok (.getfield 157, 3) := by decide +kernel
theorem dX5_parseRoad_23 : decode cX5_parseRoad 23 = .ok (.istore_n 3, 1) := by decide +kernel
theorem dX5_parseRoad_24 : decode cX5_parseRoad 24 = .ok (.aload_n 1, 1) := by decide +kernel
theorem dX5_parseRoad_25 : decode cX5_parseRoad 25 = .ok (.getfield 160, 3) := by decide +kernel
theorem dX5_parseRoad_28 : decode cX5_parseRoad 28 = .ok (.iload_n 3, 1) := by decide +kernel
theorem dX5_parseRoad_29 : decode cX5_parseRoad 29 = .ok (.aaload, 1) := by decide +kernel
theorem dX5_parseRoad_30 : decode cX5_parseRoad 30 = .ok (.astore 4, 2) := by decide +kernel
theorem dX5_parseRoad_32 : decode cX5_parseRoad 32 = .ok (.aload_n 1, 1) := by decide +kernel
theorem dX5_parseRoad_33 : decode cX5_parseRoad 33 = .ok (.getfield 164, 3) := by decide +kernel
theorem dX5_parseRoad_36 : decode cX5_parseRoad 36 = .ok (.iload_n 3, 1) := by decide +kernel
theorem dX5_parseRoad_37 : decode cX5_parseRoad 37 = .ok (.aload_n 0, 1) := by decide +kernel
theorem dX5_parseRoad_38 : decode cX5_parseRoad 38 = .ok (.getfield 12, 3) := by decide +kernel
theorem dX5_parseRoad_41 : decode cX5_parseRoad 41 = .ok (.aload_n 1, 1) := by decide +kernel
theorem dX5_parseRoad_42 : decode cX5_parseRoad 42 = .ok (.getfield 164, 3) := by decide +kernel
theorem dX5_parseRoad_45 : decode cX5_parseRoad 45 = .ok (.iload_n 3, 1) := by decide +kernel
theorem dX5_parseRoad_46 : decode cX5_parseRoad 46 = .ok (.invokevirtual 126, 3) := by decide +kernel
theorem dX5_parseRoad_49 : decode cX5_parseRoad 49 = .ok (.iastore, 1) := by decide +kernel
theorem dX5_parseRoad_50 : decode cX5_parseRoad 50 = .ok (.aload 4, 2) := by decide +kernel
theorem dX5_parseRoad_52 : decode cX5_parseRoad 52 = .ok (.aload_n 0, 1) := by decide +kernel
theorem dX5_parseRoad_53 : decode cX5_parseRoad 53 = .ok (.getfield 12, 3) := by decide +kernel
theorem dX5_parseRoad_56 : decode cX5_parseRoad 56 = .ok (.iconst 0, 1) := by decide +kernel
theorem dX5_parseRoad_57 : decode cX5_parseRoad 57 = .ok (.sipush 999, 3) := by decide +kernel
theorem dX5_parseRoad_60 : decode cX5_parseRoad 60 = .ok (.invokevirtual 73, 3) := by decide +kernel
theorem dX5_parseRoad_63 : decode cX5_parseRoad 63 = .ok (.putfield 167, 3) := by decide +kernel
theorem dX5_parseRoad_66 : decode cX5_parseRoad 66 = .ok (.aload 4, 2) := by decide +kernel
theorem dX5_parseRoad_68 : decode cX5_parseRoad 68 = .ok (.aload_n 0, 1) := by decide +kernel
theorem dX5_parseRoad_69 : decode cX5_parseRoad 69 = .ok (.getfield 12, 3) := by decide +kernel
theorem dX5_parseRoad_72 : decode cX5_parseRoad 72 = .ok (.iconst 0, 1) := by decide +kernel
theorem dX5_parseRoad_73 : decode cX5_parseRoad 73 = .ok (.sipush 999, 3) := by decide +kernel
theorem dX5_parseRoad_76 : decode cX5_parseRoad 76 = .ok (.invokevirtual 73, 3) := by decide +kernel
theorem dX5_parseRoad_79 : decode cX5_parseRoad 79 = .ok (.putfield 172, 3) := by decide +kernel
theorem dX5_parseRoad_82 : decode cX5_parseRoad 82 = .ok (.aload 4, 2) := by decide +kernel
theorem dX5_parseRoad_84 : decode cX5_parseRoad 84 = .ok (.aload_n 0, 1) := by decide +kernel
theorem dX5_parseRoad_85 : decode cX5_parseRoad 85 = .ok (.getfield 12, 3) := by decide +kernel
theorem dX5_parseRoad_88 : decode cX5_parseRoad 88 = .ok (.iconst 0, 1) := by decide +kernel
theorem dX5_parseRoad_89 : decode cX5_parseRoad 89 = .ok (.sipush 999, 3) := by decide +kernel
theorem dX5_parseRoad_92 : decode cX5_parseRoad 92 = .ok (.invokevirtual 73, 3) := by decide +kernel
theorem dX5_parseRoad_95 : decode cX5_parseRoad 95 = .ok (.putfield 175, 3) := by decide +kernel
theorem dX5_parseRoad_98 : decode cX5_parseRoad 98 = .ok (.aload 4, 2) := by decide +kernel
theorem dX5_parseRoad_100 : decode cX5_parseRoad 100 = .ok (.aload_n 0, 1) := by decide +kernel
theorem dX5_parseRoad_101 : decode cX5_parseRoad 101 = .ok (.getfield 12, 3) := by decide +kernel
theorem dX5_parseRoad_104 : decode cX5_parseRoad 104 = .ok (.iconst 0, 1) := by decide +kernel
theorem dX5_parseRoad_105 : decode cX5_parseRoad 105 = .ok (.sipush 999, 3) := by decide +kernel
theorem dX5_parseRoad_108 : decode cX5_parseRoad 108 = .ok (.invokevirtual 73, 3) := by decide +kernel
theorem dX5_parseRoad_111 : decode cX5_parseRoad 111 = .ok (.putfield 178, 3) := by decide +kernel
theorem dX5_parseRoad_114 : decode cX5_parseRoad 114 = .ok (.aload_n 1, 1) := by decide +kernel
theorem dX5_parseRoad_115 : decode cX5_parseRoad 115 = .ok (.dup, 1) := by decide +kernel
theorem dX5_parseRoad_116 : decode cX5_parseRoad 116 = .ok (.getfield 157, 3) := by decide +kernel
theorem dX5_parseRoad_119 : decode cX5_parseRoad 119 = .ok (.iconst 1, 1) := by decide +kernel
theorem dX5_parseRoad_120 : decode cX5_parseRoad 120 = .ok (.iadd, 1) := by decide +kernel
theorem dX5_parseRoad_121 : decode cX5_parseRoad 121 = .ok (.putfield 157, 3) := by decide +kernel
theorem dX5_parseRoad_124 : decode cX5_parseRoad 124 = .ok (.return_, 1) := by decide +kernel
def f_X5_parseRoad (N : Nat) (R : Nat → Nat → Nat) (σ : SI) (x0 : Nat) (x1 : Nat) (x2 : Int32) : Option (Unit × SI) := if (σ x1 10) < (6 : Int32) then (ck (σ x1 10) 6 (bd (f_X10_takeName N R 6 σ (R x0 0) (R x1 4) (σ x1 10)) (fun a8 σ8 => ck (σ x1 10) 6 (sq (up σ8 (R x1 4) (σ x1 10).toNatClampNeg a8) (fun σ10 => bd (f_X10_takeNumber N R σ10 (R x0 0) (0 : Int32) (999 : Int32)) (fun a12 σ12 => sq (up σ12 (R (R x1 1) (σ x1 10).toNatClampNeg) 0 a12) (fun σ13 => bd (f_X10_takeNumber N R σ13 (R x0 0) (0 : Int32) (999 : Int32)) (fun a15 σ15 => sq (up σ15 (R (R x1 1) (σ x1 10).toNatClampNeg) 1 a15) (fun σ16 => bd (f_X10_takeNumber N R σ16 (R x0 0) (0 : Int32) (999 : Int32)) (fun a18 σ18 => sq (up σ18 (R (R x1 1) (σ x1 10).toNatClampNeg) 2 a18) (fun σ19 => bd (f_X10_takeNumber N R σ19 (R x0 0) (0 : Int32) (999 : Int32)) (fun a21 σ21 => sq (up σ21 (R (R x1 1) (σ x1 10).toNatClampNeg) 3 a21) (fun σ22 => sq (up σ22 x1 10 ((σ22 x1 10) + (1 : Int32))) (fun σ23 => some ((), σ23))))))))))))))) else (bd (f_X10_fail N R σ (R x0 0) x2 (4 : Int32)) (fun _ σ25 => some ((), σ25)))
set_option maxHeartbeats 4000000 in
set_option maxRecDepth 100000 in
theorem ok_X5_parseRoad {l : Launch} {g : GL} {R : Nat → Nat → Nat} {L : Nat → Nat → Int64} {N : Nat} {σ : SI} {x0 : Nat} {x1 : Nat} {x2 : Int32} {r : (Unit × SI)} (h : f_X5_parseRoad N R σ x0 x1 x2 = some r) (hSh : ShR R) (hx0 : Ok 202 x0 5) (hx1 : Ok 202 x1 9) : Ct l g 3 yX5_parseRoad cX5_parseRoad 5 none 202 202 0 0 [.ref (ga g x0), .ref (ga g x1), .int x2] (mkS σ R L) (PV R L r) := by
  refine Met.ofW (cc := cX5_parseRoad) (maxL := 5) (ret := none) (by decide) rfl ?_
  intro p e s m args below meth c s₁ B hml hv
  obtain ⟨rfl, hE, hLo, hWd⟩ := hv
  have hr : meth.sig.returnType = none := B.returns
  have C : Cx l g p s m meth c cX5_parseRoad 5 RX5 := ⟨B.exec, B.bytes, hml, findClass_of_methodNamed B.named, hE, hLo, B.notSynchronized⟩
  have S : S2 g s σ R L s.heap [] := ⟨hWd, va_S.rf⟩
  have hx := C.1
  have hb := C.2.1
  have hl := lv_entry ([.ref (ga g x0), .ref (ga g x1), .int x2]) (n := 5) (Nat.le_of_ble_eq_true rfl)
  rw [lg_entry_eq]
  generalize (lg_sl ([.ref (ga g x0), .ref (ga g x1), .int x2]) ++ List.replicate (5 - (lg_sl ([.ref (ga g x0), .ref (ga g x1), .int x2])).length) Slot.unset).toArray = ls at hl ⊢
  have hl : lv_has ls 5 [(0, .ref (ga g x0)), (1, .ref (ga g x1)), (2, .int x2)] := hl
  generalize hH : s.heap = H at S ⊢
  generalize hlc : ([] : List Loc) = locs at S ⊢
  rw [f_X5_parseRoad] at h
  refine lv_aload_n hx hb dX5_parseRoad_0 rfl (lv_at hl 1 rfl) ?_
  refine x_getI C S KX9 hx1 10 (by decide) rfl rfl fl_RX5_157 dX5_parseRoad_1 ?_
  refine lv_bipush (v := (6 : Int32)) hx hb dX5_parseRoad_4 (by decide) ?_
  refine lv_icmp_lt (tgt := 19) hx hb dX5_parseRoad_6 (by decide) (fun c1 => ?_) (fun c1 => ?_)
  · have h := it_p c1 h
    refine lv_aload_n hx hb dX5_parseRoad_19 rfl (lv_at hl 1 rfl) ?_
    refine x_getI C S KX9 hx1 10 (by decide) rfl rfl fl_RX5_157 dX5_parseRoad_20 ?_
    refine lv_istore_n (lv' := [(3, .int (σ x1 10)), (0, .ref (ga g x0)), (1, .ref (ga g x1)), (2, .int x2)]) hx hb dX5_parseRoad_23 rfl hl (by decide) rfl (fun ls hl => ?_)
    refine lv_aload_n hx hb dX5_parseRoad_24 rfl (lv_at hl 2 rfl) ?_
    have hR2 : Ok 202 (R x1 1) 70006 := hSh x1 9 1 70006 hx1.1 rfl
    refine x_getR C S KX9 hx1 1 (by decide) rfl rfl fl_RX5_160 hR2 dX5_parseRoad_25 ?_
    refine lv_iload_n hx hb dX5_parseRoad_28 rfl (lv_at hl 0 rfl) ?_
    obtain ⟨hi3, h⟩ := ck_el h
    have hR4 : Ok 202 (R (R x1 1) (σ x1 10).toNatClampNeg) 7 := hSh (R x1 1) 70006 (σ x1 10).toNatClampNeg 7 hR2.1 (if_pos (vp_lt hi3))
    refine x_aald (len := 6) C S (by decide) 6 (by decide) rfl hR2 hi3 hR4 dX5_parseRoad_29 ?_
    refine lv_astore (lv' := [(4, .ref (ga g (R (R x1 1) (σ x1 10).toNatClampNeg))), (3, .int (σ x1 10)), (0, .ref (ga g x0)), (1, .ref (ga g x1)), (2, .int x2)]) hx hb dX5_parseRoad_30 hl (by decide) rfl (fun ls hl => ?_)
    refine lv_aload_n hx hb dX5_parseRoad_32 rfl (lv_at hl 3 rfl) ?_
    have hR5 : Ok 202 (R x1 4) 10006 := hSh x1 9 4 10006 hx1.1 rfl
    refine x_getR C S KX9 hx1 4 (by decide) rfl rfl fl_RX5_164 hR5 dX5_parseRoad_33 ?_
    refine lv_iload_n hx hb dX5_parseRoad_36 rfl (lv_at hl 1 rfl) ?_
    refine lv_aload_n hx hb dX5_parseRoad_37 rfl (lv_at hl 2 rfl) ?_
    have hR6 : Ok 202 (R x0 0) 10 := hSh x0 5 0 10 hx0.1 rfl
    refine x_getR C S KX5 hx0 0 (by decide) rfl rfl fl_RX5_12 hR6 dX5_parseRoad_38 ?_
    refine lv_aload_n hx hb dX5_parseRoad_41 rfl (lv_at hl 3 rfl) ?_
    have hR7 : Ok 202 (R x1 4) 10006 := hSh x1 9 4 10006 hx1.1 rfl
    refine x_getR C S KX9 hx1 4 (by decide) rfl rfl fl_RX5_164 hR7 dX5_parseRoad_42 ?_
    refine lv_iload_n hx hb dX5_parseRoad_45 rfl (lv_at hl 1 rfl) ?_
    obtain ⟨a8, σ8, hc8, h⟩ := bd_el h
    refine x_callVI C S KX10 hR6 (ok_X10_takeName (L := L) hc8 hSh (by decide) hR6 hR7) ⟨cd_X10_takeName, ni_RX10, ml_RX5_126, in_X10_takeName, sl_X10_takeName⟩ ⟨by decide, by decide⟩ rfl (rm_ok (by decide) (by decide)) hl.1 rfl (Nat.le_of_ble_eq_true rfl) ⟨by decide, by decide⟩ dX5_parseRoad_46 (fun H locs S => ?_)
    obtain ⟨hi9, h⟩ := ck_el h
    obtain ⟨σ10, hs10, h⟩ := sq_el h
    refine x_iast (len := 6) C S (by decide) hR5 hi9 dX5_parseRoad_49 hs10 (fun H locs S => ?_)
    refine lv_aload hx hb dX5_parseRoad_50 (lv_at hl 0 rfl) ?_
    refine lv_aload_n hx hb dX5_parseRoad_52 rfl (lv_at hl 2 rfl) ?_
    have hR11 : Ok 202 (R x0 0) 10 := hSh x0 5 0 10 hx0.1 rfl
    refine x_getR C S KX5 hx0 0 (by decide) rfl rfl fl_RX5_12 hR11 dX5_parseRoad_53 ?_
    refine lv_iconst (v := (0 : Int32)) hx hb dX5_parseRoad_56 (by decide) ?_
    refine lv_sipush (v := (999 : Int32)) hx hb dX5_parseRoad_57 (by decide) ?_
    obtain ⟨a12, σ12, hc12, h⟩ := bd_el h
    refine x_callVI C S KX10 hR11 (ok_X10_takeNumber (L := L) hc12 hSh hR11) ⟨cd_X10_takeNumber, ni_RX10, ml_RX5_73, in_X10_takeNumber, sl_X10_takeNumber⟩ ⟨by decide, by decide⟩ rfl (rm_ok (by decide) (by decide)) hl.1 rfl (Nat.le_of_ble_eq_true rfl) ⟨by decide, by decide⟩ dX5_parseRoad_60 (fun H locs S => ?_)
    obtain ⟨σ13, hs13, h⟩ := sq_el h
    refine x_putI C S KX7 hR4 0 (by decide) rfl rfl rfl ⟨rfl, rfl⟩ fl_RX5_167 dX5_parseRoad_63 hs13 (fun H locs S => ?_)
    refine lv_aload hx hb dX5_parseRoad_66 (lv_at hl 0 rfl) ?_
    refine lv_aload_n hx hb dX5_parseRoad_68 rfl (lv_at hl 2 rfl) ?_
    have hR14 : Ok 202 (R x0 0) 10 := hSh x0 5 0 10 hx0.1 rfl
    refine x_getR C S KX5 hx0 0 (by decide) rfl rfl fl_RX5_12 hR14 dX5_parseRoad_69 ?_
    refine lv_iconst (v := (0 : Int32)) hx hb dX5_parseRoad_72 (by decide) ?_
    refine lv_sipush (v := (999 : Int32)) hx hb dX5_parseRoad_73 (by decide) ?_
    obtain ⟨a15, σ15, hc15, h⟩ := bd_el h
    refine x_callVI C S KX10 hR14 (ok_X10_takeNumber (L := L) hc15 hSh hR14) ⟨cd_X10_takeNumber, ni_RX10, ml_RX5_73, in_X10_takeNumber, sl_X10_takeNumber⟩ ⟨by decide, by decide⟩ rfl (rm_ok (by decide) (by decide)) hl.1 rfl (Nat.le_of_ble_eq_true rfl) ⟨by decide, by decide⟩ dX5_parseRoad_76 (fun H locs S => ?_)
    obtain ⟨σ16, hs16, h⟩ := sq_el h
    refine x_putI C S KX7 hR4 1 (by decide) rfl rfl rfl ⟨rfl, rfl⟩ fl_RX5_172 dX5_parseRoad_79 hs16 (fun H locs S => ?_)
    refine lv_aload hx hb dX5_parseRoad_82 (lv_at hl 0 rfl) ?_
    refine lv_aload_n hx hb dX5_parseRoad_84 rfl (lv_at hl 2 rfl) ?_
    have hR17 : Ok 202 (R x0 0) 10 := hSh x0 5 0 10 hx0.1 rfl
    refine x_getR C S KX5 hx0 0 (by decide) rfl rfl fl_RX5_12 hR17 dX5_parseRoad_85 ?_
    refine lv_iconst (v := (0 : Int32)) hx hb dX5_parseRoad_88 (by decide) ?_
    refine lv_sipush (v := (999 : Int32)) hx hb dX5_parseRoad_89 (by decide) ?_
    obtain ⟨a18, σ18, hc18, h⟩ := bd_el h
    refine x_callVI C S KX10 hR17 (ok_X10_takeNumber (L := L) hc18 hSh hR17) ⟨cd_X10_takeNumber, ni_RX10, ml_RX5_73, in_X10_takeNumber, sl_X10_takeNumber⟩ ⟨by decide, by decide⟩ rfl (rm_ok (by decide) (by decide)) hl.1 rfl (Nat.le_of_ble_eq_true rfl) ⟨by decide, by decide⟩ dX5_parseRoad_92 (fun H locs S => ?_)
    obtain ⟨σ19, hs19, h⟩ := sq_el h
    refine x_putI C S KX7 hR4 2 (by decide) rfl rfl rfl ⟨rfl, rfl⟩ fl_RX5_175 dX5_parseRoad_95 hs19 (fun H locs S => ?_)
    refine lv_aload hx hb dX5_parseRoad_98 (lv_at hl 0 rfl) ?_
    refine lv_aload_n hx hb dX5_parseRoad_100 rfl (lv_at hl 2 rfl) ?_
    have hR20 : Ok 202 (R x0 0) 10 := hSh x0 5 0 10 hx0.1 rfl
    refine x_getR C S KX5 hx0 0 (by decide) rfl rfl fl_RX5_12 hR20 dX5_parseRoad_101 ?_
    refine lv_iconst (v := (0 : Int32)) hx hb dX5_parseRoad_104 (by decide) ?_
    refine lv_sipush (v := (999 : Int32)) hx hb dX5_parseRoad_105 (by decide) ?_
    obtain ⟨a21, σ21, hc21, h⟩ := bd_el h
    refine x_callVI C S KX10 hR20 (ok_X10_takeNumber (L := L) hc21 hSh hR20) ⟨cd_X10_takeNumber, ni_RX10, ml_RX5_73, in_X10_takeNumber, sl_X10_takeNumber⟩ ⟨by decide, by decide⟩ rfl (rm_ok (by decide) (by decide)) hl.1 rfl (Nat.le_of_ble_eq_true rfl) ⟨by decide, by decide⟩ dX5_parseRoad_108 (fun H locs S => ?_)
    obtain ⟨σ22, hs22, h⟩ := sq_el h
    refine x_putI C S KX7 hR4 3 (by decide) rfl rfl rfl ⟨rfl, rfl⟩ fl_RX5_178 dX5_parseRoad_111 hs22 (fun H locs S => ?_)
    refine lv_aload_n hx hb dX5_parseRoad_114 rfl (lv_at hl 3 rfl) ?_
    refine lv_dup hx hb dX5_parseRoad_115 rfl ?_
    refine x_getI C S KX9 hx1 10 (by decide) rfl rfl fl_RX5_157 dX5_parseRoad_116 ?_
    refine lv_iconst (v := (1 : Int32)) hx hb dX5_parseRoad_119 (by decide) ?_
    refine lv_iadd hx hb dX5_parseRoad_120 ?_
    obtain ⟨σ23, hs23, h⟩ := sq_el h
    refine x_putI C S KX9 hx1 10 (by decide) rfl rfl rfl ⟨rfl, rfl⟩ fl_RX5_157 dX5_parseRoad_121 hs23 (fun H locs S => ?_)
    exact x_vret C S hr h dX5_parseRoad_124
  · have h := it_n c1 h
    refine lv_aload_n hx hb dX5_parseRoad_9 rfl (lv_at hl 0 rfl) ?_
    have hR24 : Ok 202 (R x0 0) 10 := hSh x0 5 0 10 hx0.1 rfl
    refine x_getR C S KX5 hx0 0 (by decide) rfl rfl fl_RX5_12 hR24 dX5_parseRoad_10 ?_
    refine lv_iload_n hx hb dX5_parseRoad_13 rfl (lv_at hl 2 rfl) ?_
    refine lv_iconst (v := (4 : Int32)) hx hb dX5_parseRoad_14 (by decide) ?_
    obtain ⟨a25, σ25, hc25, h⟩ := bd_el h
    refine x_callVV C S KX10 hR24 (ok_X10_fail (L := L) hc25 hSh hR24) ⟨cd_X10_fail, ni_RX10, ml_RX5_115, in_X10_fail, sl_X10_fail⟩ ⟨by decide, by decide⟩ rfl (rm_ok (by decide) (by decide)) hl.1 rfl (Nat.le_of_ble_eq_true rfl) ⟨by decide, by decide⟩ dX5_parseRoad_15 (fun H locs S => ?_)
    exact x_vret C S hr h dX5_parseRoad_18
theorem dX5_parseCharge_0 : decode cX5_parseCharge 0 = .ok (.aload_n 1, 1) := by decide +kernel
theorem dX5_parseCharge_1 : decode cX5_parseCharge 1 = .ok (.getfield 202, 3) := by decide +kernel
theorem dX5_parseCharge_4 : decode cX5_parseCharge 4 = .ok (.bipush 12, 2) := by decide +kernel
theorem dX5_parseCharge_6 : decode cX5_parseCharge 6 = .ok (.if_icmp .lt 19, 3) := by decide +kernel
theorem dX5_parseCharge_9 : decode cX5_parseCharge 9 = .ok (.aload_n 0, 1) := by decide +kernel
theorem dX5_parseCharge_10 : decode cX5_parseCharge 10 = .ok (.getfield 12, 3) := by decide +kernel
theorem dX5_parseCharge_13 : decode cX5_parseCharge 13 = .ok (.aload_n 0, 1) := by decide +kernel
theorem dX5_parseCharge_14 : decode cX5_parseCharge 14 = .ok (.getfield 12, 3) := by decide +kernel
theorem dX5_parseCharge_17 : decode cX5_parseCharge 17 = .ok (.getfield 44, 3) := by decide +kernel
theorem dX5_parseCharge_20 : decode cX5_parseCharge 20 = .ok (.iconst 4, 1) := by decide +kernel
theorem dX5_parseCharge_21 : decode cX5_parseCharge 21 = .ok (.invokevirtual 115, 3) := by decide +kernel
theorem dX5_parseCharge_24 : decode cX5_parseCharge 24 = .ok (.return_, 1) := by decide +kernel
theorem dX5_parseCharge_25 : decode cX5_parseCharge 25 = .ok (.aload_n 0, 1) := by decide +kernel
theorem dX5_parseCharge_26 : decode cX5_parseCharge 26 = .ok (.getfield 12, 3) := by decide +kernel
theorem dX5_parseCharge_29 : decode cX5_parseCharge 29 = .ok (.iconst 1, 1) := by decide +kernel
theorem dX5_parseCharge_30 : decode cX5_parseCharge 30 = .ok (.sipush 999, 3) := by decide +kernel
theorem dX5_parseCharge_33 : decode cX5_parseCharge 33 = .ok (.invokevirtual 73, 3) := by decide +kernel
theorem dX5_parseCharge_36 : decode cX5_parseCharge 36 = .ok (.istore_n 2, 1) := by decide +kernel
theorem dX5_parseCharge_37 : decode cX5_parseCharge 37 = .ok (.aload_n 0, 1) := by decide +kernel
theorem dX5_parseCharge_38 : decode cX5_parseCharge 38 = .ok (.getfield 12, 3) := by decide +kernel
theorem dX5_parseCharge_41 : decode cX5_parseCharge 41 = .ok (.aload_n 0, 1) := by decide +kernel
theorem dX5_parseCharge_42 : decode cX5_parseCharge 42 = .ok (.getfield 12, 3) := by decide +kernel
theorem dX5_parseCharge_45 : decode cX5_parseCharge 45 = .ok (.ldc 209, 2) := by decide +kernel
theorem dX5_parseCharge_47 : decode cX5_parseCharge 47 = .ok (.invokevirtual 50, 3) := by decide +kernel
theorem dX5_parseCharge_50 : decode cX5_parseCharge 50 = .ok (.invokevirtual 40, 3) := by decide +kernel
theorem dX5_parseCharge_53 : decode cX5_parseCharge 53 = .ok (.aload_n 0, 1) := by decide +kernel
theorem dX5_parseCharge_54 : decode cX5_parseCharge 54 = .ok (.getfield 12, 3) := by decide +kernel
theorem dX5_parseCharge_57 : decode cX5_parseCharge 57 = .ok (.iconst 0, 1) := by decide +kernel
theorem dX5_parseCharge_58 : decode cX5_parseCharge 58 = .ok (.sipush 9999, 3) := by decide +kernel
theorem dX5_parseCharge_61 : decode cX5_parseCharge 61 = .ok (.invokevirtual 73, 3) := by decide +kernel
theorem dX5_parseCharge_64 : decode cX5_parseCharge 64 = .ok (.istore_n 3, 1) := by decide +kernel
theorem dX5_parseCharge_65 : decode cX5_parseCharge 65 = .ok (.aload_n 1, 1) := by decide +kernel
theorem dX5_parseCharge_66 : decode cX5_parseCharge 66 = .ok (.iload_n 2, 1) := by decide +kernel
theorem dX5_parseCharge_67 : decode cX5_parseCharge 67 = .ok (.iload_n 3, 1) := by decide +kernel
theorem dX5_parseCharge_68 : decode cX5_parseCharge 68 = .ok (.invokevirtual 211, 3) := by decide +kernel
theorem dX5_parseCharge_71 : decode cX5_parseCharge 71 = .ok (.return_, 1) := by decide +kernel
def f_X5_parseCharge (N : Nat) (R : Nat → Nat → Nat) (σ : SI) (x0 : Nat) (x1 : Nat) : Option (Unit × SI) := if (σ x1 7) < (12 : Int32) then (bd (f_X10_takeNumber N R σ (R x0 0) (1 : Int32) (999 : Int32)) (fun a3 σ3 => bd (f_X10_tookWord N R σ3 (R x0 0) 4) (fun a6 σ6 => bd (f_X10_need N R σ6 (R x0 0) a6) (fun _ σ7 => bd (f_X10_takeNumber N R σ7 (R x0 0) (0 : Int32) (9999 : Int32)) (fun a9 σ9 => bd (f_X0_addCharge N R σ9 x1 a3 a9) (fun _ σ10 => some ((), σ10))))))) else (bd (f_X10_fail N R σ (R x0 0) (σ (R x0 0) 2) (4 : Int32)) (fun _ σ13 => some ((), σ13)))
set_option maxHeartbeats 4000000 in
set_option maxRecDepth 100000 in
theorem ok_X5_parseCharge {l : Launch} {g : GL} {R : Nat → Nat → Nat} {L : Nat → Nat → Int64} {N : Nat} {σ : SI} {x0 : Nat} {x1 : Nat} {r : (Unit × SI)} (h : f_X5_parseCharge N R σ x0 x1 = some r) (hSh : ShR R) (hx0 : Ok 202 x0 5) (hx1 : Ok 202 x1 0) : Ct l g 6 yX5_parseCharge cX5_parseCharge 4 none 202 202 0 0 [.ref (ga g x0), .ref (ga g x1)] (mkS σ R L) (PV R L r) := by
  refine Met.ofW (cc := cX5_parseCharge) (maxL := 4) (ret := none) (by decide) rfl ?_
  intro p e s m args below meth c s₁ B hml hv
  obtain ⟨rfl, hE, hLo, hWd⟩ := hv
  have hr : meth.sig.returnType = none := B.returns
  have C : Cx l g p s m meth c cX5_parseCharge 4 RX5 := ⟨B.exec, B.bytes, hml, findClass_of_methodNamed B.named, hE, hLo, B.notSynchronized⟩
  have S : S2 g s σ R L s.heap [] := ⟨hWd, va_S.rf⟩
  have hx := C.1
  have hb := C.2.1
  have hl := lv_entry ([.ref (ga g x0), .ref (ga g x1)]) (n := 4) (Nat.le_of_ble_eq_true rfl)
  rw [lg_entry_eq]
  generalize (lg_sl ([.ref (ga g x0), .ref (ga g x1)]) ++ List.replicate (4 - (lg_sl ([.ref (ga g x0), .ref (ga g x1)])).length) Slot.unset).toArray = ls at hl ⊢
  have hl : lv_has ls 4 [(0, .ref (ga g x0)), (1, .ref (ga g x1))] := hl
  generalize hH : s.heap = H at S ⊢
  generalize hlc : ([] : List Loc) = locs at S ⊢
  rw [f_X5_parseCharge] at h
  refine lv_aload_n hx hb dX5_parseCharge_0 rfl (lv_at hl 1 rfl) ?_
  refine x_getI C S KX0 hx1 7 (by decide) rfl rfl fl_RX5_202 dX5_parseCharge_1 ?_
  refine lv_bipush (v := (12 : Int32)) hx hb dX5_parseCharge_4 (by decide) ?_
  refine lv_icmp_lt (tgt := 25) hx hb dX5_parseCharge_6 (by decide) (fun c1 => ?_) (fun c1 => ?_)
  · have h := it_p c1 h
    refine lv_aload_n hx hb dX5_parseCharge_25 rfl (lv_at hl 0 rfl) ?_
    have hR2 : Ok 202 (R x0 0) 10 := hSh x0 5 0 10 hx0.1 rfl
    refine x_getR C S KX5 hx0 0 (by decide) rfl rfl fl_RX5_12 hR2 dX5_parseCharge_26 ?_
    refine lv_iconst (v := (1 : Int32)) hx hb dX5_parseCharge_29 (by decide) ?_
    refine lv_sipush (v := (999 : Int32)) hx hb dX5_parseCharge_30 (by decide) ?_
    obtain ⟨a3, σ3, hc3, h⟩ := bd_el h
    refine x_callVI C S KX10 hR2 (ok_X10_takeNumber (L := L) hc3 hSh hR2) ⟨cd_X10_takeNumber, ni_RX10, ml_RX5_73, in_X10_takeNumber, sl_X10_takeNumber⟩ ⟨by decide, by decide⟩ rfl (rm_ok (by decide) (by decide)) hl.1 rfl (Nat.le_of_ble_eq_true rfl) ⟨by decide, by decide⟩ dX5_parseCharge_33 (fun H locs S => ?_)
    refine lv_istore_n (lv' := [(2, .int a3), (0, .ref (ga g x0)), (1, .ref (ga g x1))]) hx hb dX5_parseCharge_36 rfl hl (by decide) rfl (fun ls hl => ?_)
    refine lv_aload_n hx hb dX5_parseCharge_37 rfl (lv_at hl 1 rfl) ?_
    have hR4 : Ok 202 (R x0 0) 10 := hSh x0 5 0 10 hx0.1 rfl
    refine x_getR C S KX5 hx0 0 (by decide) rfl rfl fl_RX5_12 hR4 dX5_parseCharge_38 ?_
    refine lv_aload_n hx hb dX5_parseCharge_41 rfl (lv_at hl 1 rfl) ?_
    have hR5 : Ok 202 (R x0 0) 10 := hSh x0 5 0 10 hx0.1 rfl
    refine x_getR C S KX5 hx0 0 (by decide) rfl rfl fl_RX5_12 hR5 dX5_parseCharge_42 ?_
    refine x_ldcs C (k := 209) (tx := "at") (ia := 4) (by decide) dX5_parseCharge_45 ?_
    obtain ⟨a6, σ6, hc6, h⟩ := bd_el h
    refine x_callVI C S KX10 hR5 (ok_X10_tookWord (L := L) hc6 hSh hR5 (by decide)) ⟨cd_X10_tookWord, ni_RX10, ml_RX5_50, in_X10_tookWord, sl_X10_tookWord⟩ ⟨by decide, by decide⟩ rfl (rm_ok (by decide) (by decide)) hl.1 rfl (Nat.le_of_ble_eq_true rfl) ⟨by decide, by decide⟩ dX5_parseCharge_47 (fun H locs S => ?_)
    obtain ⟨a7, σ7, hc7, h⟩ := bd_el h
    refine x_callVV C S KX10 hR4 (ok_X10_need (L := L) hc7 hSh hR4) ⟨cd_X10_need, ni_RX10, ml_RX5_40, in_X10_need, sl_X10_need⟩ ⟨by decide, by decide⟩ rfl (rm_ok (by decide) (by decide)) hl.1 rfl (Nat.le_of_ble_eq_true rfl) ⟨by decide, by decide⟩ dX5_parseCharge_50 (fun H locs S => ?_)
    refine lv_aload_n hx hb dX5_parseCharge_53 rfl (lv_at hl 1 rfl) ?_
    have hR8 : Ok 202 (R x0 0) 10 := hSh x0 5 0 10 hx0.1 rfl
    refine x_getR C S KX5 hx0 0 (by decide) rfl rfl fl_RX5_12 hR8 dX5_parseCharge_54 ?_
    refine lv_iconst (v := (0 : Int32)) hx hb dX5_parseCharge_57 (by decide) ?_
    refine lv_sipush (v := (9999 : Int32)) hx hb dX5_parseCharge_58 (by decide) ?_
    obtain ⟨a9, σ9, hc9, h⟩ := bd_el h
    refine x_callVI C S KX10 hR8 (ok_X10_takeNumber (L := L) hc9 hSh hR8) ⟨cd_X10_takeNumber, ni_RX10, ml_RX5_73, in_X10_takeNumber, sl_X10_takeNumber⟩ ⟨by decide, by decide⟩ rfl (rm_ok (by decide) (by decide)) hl.1 rfl (Nat.le_of_ble_eq_true rfl) ⟨by decide, by decide⟩ dX5_parseCharge_61 (fun H locs S => ?_)
    refine lv_istore_n (lv' := [(3, .int a9), (2, .int a3), (0, .ref (ga g x0)), (1, .ref (ga g x1))]) hx hb dX5_parseCharge_64 rfl hl (by decide) rfl (fun ls hl => ?_)
    refine lv_aload_n hx hb dX5_parseCharge_65 rfl (lv_at hl 3 rfl) ?_
    refine lv_iload_n hx hb dX5_parseCharge_66 rfl (lv_at hl 1 rfl) ?_
    refine lv_iload_n hx hb dX5_parseCharge_67 rfl (lv_at hl 0 rfl) ?_
    obtain ⟨a10, σ10, hc10, h⟩ := bd_el h
    refine x_callVV C S KX0 hx1 (ok_X0_addCharge (L := L) hc10 hSh hx1) ⟨cd_X0_addCharge, ni_RX0, ml_RX5_211, in_X0_addCharge, sl_X0_addCharge⟩ ⟨by decide, by decide⟩ rfl (rm_ok (by decide) (by decide)) hl.1 rfl (Nat.le_of_ble_eq_true rfl) ⟨by decide, by decide⟩ dX5_parseCharge_68 (fun H locs S => ?_)
    exact x_vret C S hr h dX5_parseCharge_71
  · have h := it_n c1 h
    refine lv_aload_n hx hb dX5_parseCharge_9 rfl (lv_at hl 0 rfl) ?_
    have hR11 : Ok 202 (R x0 0) 10 := hSh x0 5 0 10 hx0.1 rfl
    refine x_getR C S KX5 hx0 0 (by decide) rfl rfl fl_RX5_12 hR11 dX5_parseCharge_10 ?_
    refine lv_aload_n hx hb dX5_parseCharge_13 rfl (lv_at hl 0 rfl) ?_
    have hR12 : Ok 202 (R x0 0) 10 := hSh x0 5 0 10 hx0.1 rfl
    refine x_getR C S KX5 hx0 0 (by decide) rfl rfl fl_RX5_12 hR12 dX5_parseCharge_14 ?_
    refine x_getI C S KX10 hR12 2 (by decide) rfl rfl fl_RX5_44 dX5_parseCharge_17 ?_
    refine lv_iconst (v := (4 : Int32)) hx hb dX5_parseCharge_20 (by decide) ?_
    obtain ⟨a13, σ13, hc13, h⟩ := bd_el h
    refine x_callVV C S KX10 hR11 (ok_X10_fail (L := L) hc13 hSh hR11) ⟨cd_X10_fail, ni_RX10, ml_RX5_115, in_X10_fail, sl_X10_fail⟩ ⟨by decide, by decide⟩ rfl (rm_ok (by decide) (by decide)) hl.1 rfl (Nat.le_of_ble_eq_true rfl) ⟨by decide, by decide⟩ dX5_parseCharge_21 (fun H locs S => ?_)
    exact x_vret C S hr h dX5_parseCharge_24
theorem dX5_parseSetting_0 : decode cX5_parseSetting 0 = .ok (.aload_n 0, 1) := by decide +kernel
theorem dX5_parseSetting_1 : decode cX5_parseSetting 1 = .ok (.getfield 12, 3) := by decide +kernel
theorem dX5_parseSetting_4 : decode cX5_parseSetting 4 = .ok (.ldc 71, 2) := by decide +kernel
theorem dX5_parseSetting_6 : decode cX5_parseSetting 6 = .ok (.invokevirtual 50, 3) := by decide +kernel
theorem dX5_parseSetting_9 : decode cX5_parseSetting 9 = .ok (.ifCond .eq 39, 3) := by decide +kernel
theorem dX5_parseSetting_12 : decode cX5_parseSetting 12 = .ok (.aload_n 1, 1) := by decide +kernel
theorem dX5_parseSetting_13 : decode cX5_parseSetting 13 = .ok (.aload_n 0, 1) := by decide +kernel
theorem dX5_parseSetting_14 : decode cX5_parseSetting 14 = .ok (.getfield 12, 3) := by decide +kernel
theorem dX5_parseSetting_17 : decode cX5_parseSetting 17 = .ok (.iconst 0, 1) := by decide +kernel
theorem dX5_parseSetting_18 : decode cX5_parseSetting 18 = .ok (.sipush 1439, 3) := by decide +kernel
theorem dX5_parseSetting_21 : decode cX5_parseSetting 21 = .ok (.invokevirtual 73, 3) := by decide +kernel
theorem dX5_parseSetting_24 : decode cX5_parseSetting 24 = .ok (.putfield 77, 3) := by decide +kernel
theorem dX5_parseSetting_27 : decode cX5_parseSetting 27 = .ok (.aload_n 1, 1) := by decide +kernel
theorem dX5_parseSetting_28 : decode cX5_parseSetting 28 = .ok (.aload_n 0, 1) := by decide +kernel
theorem dX5_parseSetting_29 : decode cX5_parseSetting 29 = .ok (.getfield 12, 3) := by decide +kernel
theorem dX5_parseSetting_32 : decode cX5_parseSetting 32 = .ok (.aload_n 1, 1) := by decide +kernel
theorem dX5_parseSetting_33 : decode cX5_parseSetting 33 = .ok (.getfield 77, 3) := by decide +kernel
theorem dX5_parseSetting_36 : decode cX5_parseSetting 36 = .ok (.sipush 1439, 3) := by decide +kernel
theorem dX5_parseSetting_39 : decode cX5_parseSetting 39 = .ok (.invokevirtual 73, 3) := by decide +kernel
theorem dX5_parseSetting_42 : decode cX5_parseSetting 42 = .ok (.putfield 80, 3) := by decide +kernel
theorem dX5_parseSetting_45 : decode cX5_parseSetting 45 = .ok (.goto 134, 3) := by decide +kernel
theorem dX5_parseSetting_48 : decode cX5_parseSetting 48 = .ok (.aload_n 0, 1) := by decide +kernel
theorem dX5_parseSetting_49 : decode cX5_parseSetting 49 = .ok (.getfield 12, 3) := by decide +kernel
theorem dX5_parseSetting_52 : decode cX5_parseSetting 52 = .ok (.ldc 83, 2) := by decide +kernel
theorem dX5_parseSetting_54 : decode cX5_parseSetting 54 = .ok (.invokevirtual 50, 3) := by decide +kernel
theorem dX5_parseSetting_57 : decode cX5_parseSetting 57 = .ok (.ifCond .eq 21, 3) := by decide +kernel
theorem dX5_parseSetting_60 : decode cX5_parseSetting 60 = .ok (.aload_n 1, 1) := by decide +kernel
theorem dX5_parseSetting_61 : decode cX5_parseSetting 61 = .ok (.aload_n 0, 1) := by decide +kernel
theorem dX5_parseSetting_62 : decode cX5_parseSetting 62 = .ok (.getfield 12, 3) := by decide +kernel
theorem dX5_parseSetting_65 : decode cX5_parseSetting 65 = .ok (.iconst 1, 1) := by decide +kernel
theorem dX5_parseSetting_66 : decode cX5_parseSetting 66 = .ok (.sipush 240, 3) := by decide +kernel
theorem dX5_parseSetting_69 : decode cX5_parseSetting 69 = .ok (.invokevirtual 73, 3) := by decide +kernel
theorem dX5_parseSetting_72 : decode cX5_parseSetting 72 = .ok (.putfield 85, 3) := by decide +kernel
theorem dX5_parseSetting_75 : decode cX5_parseSetting 75 = .ok (.goto 104, 3) := by decide +kernel
theorem dX5_parseSetting_78 : decode cX5_parseSetting 78 = .ok (.aload_n 0, 1) := by decide +kernel
theorem dX5_parseSetting_79 : decode cX5_parseSetting 79 = .ok (.getfield 12, 3) := by decide +kernel
theorem dX5_parseSetting_82 : decode cX5_parseSetting 82 = .ok (.ldc 87, 2) := by decide +kernel
theorem dX5_parseSetting_84 : decode cX5_parseSetting 84 = .ok (.invokevirtual 50, 3) := by decide +kernel
theorem dX5_parseSetting_87 : decode cX5_parseSetting 87 = .ok (.ifCond .eq 34, 3) := by decide +kernel
theorem dX5_parseSetting_90 : decode cX5_parseSetting 90 = .ok (.aload_n 1, 1) := by decide +kernel
theorem dX5_parseSetting_91 : decode cX5_parseSetting 91 = .ok (.aload_n 0, 1) := by decide +kernel
theorem dX5_parseSetting_92 : decode cX5_parseSetting 92 = .ok (.getfield 12, 3) := by decide +kernel
theorem dX5_parseSetting_95 : decode cX5_parseSetting 95 = .ok (.iconst 0, 1) := by decide +kernel
theorem dX5_parseSetting_96 : decode cX5_parseSetting 96 = .ok (.bipush 60, 2) := by decide +kernel
theorem dX5_parseSetting_98 : decode cX5_parseSetting 98 = .ok (.invokevirtual 73, 3) := by decide +kernel
theorem dX5_parseSetting_101 : decode cX5_parseSetting 101 = .ok (.putfield 89, 3) := by decide +kernel
theorem dX5_parseSetting_104 : decode cX5_parseSetting 104 = .ok (.aload_n 1, 1) := by decide +kernel
theorem dX5_parseSetting_105 : decode cX5_parseSetting 105 = .ok (.aload_n 0, 1) := by decide +kernel
theorem dX5_parseSetting_106 : decode cX5_parseSetting 106 = .ok (.getfield 12, 3) := by decide +kernel
theorem dX5_parseSetting_109 : decode cX5_parseSetting 109 = .ok (.iconst 0, 1) := by decide +kernel
theorem dX5_parseSetting_110 : decode cX5_parseSetting 110 = .ok (.bipush 60, 2) := by decide +kernel
theorem dX5_parseSetting_112 : decode cX5_parseSetting 112 = .ok (.invokevirtual 73, 3) := by decide +kernel
theorem dX5_parseSetting_115 : decode cX5_parseSetting 115 = .ok (.putfield 92, 3) := by decide +kernel
theorem dX5_parseSetting_118 : decode cX5_parseSetting 118 = .ok (.goto 61, 3) := by decide +kernel
theorem dX5_parseSetting_121 : decode cX5_parseSetting 121 = .ok (.aload_n 0, 1) := by decide +kernel
theorem dX5_parseSetting_122 : decode cX5_parseSetting 122 = .ok (.getfield 12, 3) := by decide +kernel
theorem dX5_parseSetting_125 : decode cX5_parseSetting 125 = .ok (.ldc 95, 2) := by decide +kernel
theorem dX5_parseSetting_127 : decode cX5_parseSetting 127 = .ok (.invokevirtual 50, 3) := by decide +kernel
theorem dX5_parseSetting_130 : decode cX5_parseSetting 130 = .ok (.ifCond .eq 21, 3) := by decide +kernel
theorem dX5_parseSetting_133 : decode cX5_parseSetting 133 = .ok (.aload_n 1, 1) := by decide +kernel
theorem dX5_parseSetting_134 : decode cX5_parseSetting 134 = .ok (.aload_n 0, 1) := by decide +kernel
theorem dX5_parseSetting_135 : decode cX5_parseSetting 135 = .ok (.getfield 12, 3) := by decide +kernel
theorem dX5_parseSetting_138 : decode cX5_parseSetting 138 = .ok (.iconst 0, 1) := by decide +kernel
theorem dX5_parseSetting_139 : decode cX5_parseSetting 139 = .ok (.sipush 240, 3) := by decide +kernel
theorem dX5_parseSetting_142 : decode cX5_parseSetting 142 = .ok (.invokevirtual 73, 3) := by decide +kernel
theorem dX5_parseSetting_145 : decode cX5_parseSetting 145 = .ok (.putfield 97, 3) := by decide +kernel
theorem dX5_parseSetting_148 : decode cX5_parseSetting 148 = .ok (.goto 31, 3) := by decide +kernel
theorem dX5_parseSetting_151 : decode cX5_parseSetting 151 = .ok (.aload_n 0, 1) := by decide +kernel
theorem dX5_parseSetting_152 : decode cX5_parseSetting 152 = .ok (.getfield 12, 3) := by decide +kernel
theorem dX5_parseSetting_155 : decode cX5_parseSetting 155 = .ok (.ldc 100, 2) := by decide +kernel
theorem dX5_parseSetting_157 : decode cX5_parseSetting 157 = .ok (.invokevirtual 50, 3) := by decide +kernel
theorem dX5_parseSetting_160 : decode cX5_parseSetting 160 = .ok (.ifCond .eq 11, 3) := by decide +kernel
theorem dX5_parseSetting_163 : decode cX5_parseSetting 163 = .ok (.aload_n 0, 1) := by decide +kernel
theorem dX5_parseSetting_164 : decode cX5_parseSetting 164 = .ok (.aload_n 1, 1) := by decide +kernel
theorem dX5_parseSetting_165 : decode cX5_parseSetting 165 = .ok (.invokevirtual 102, 3) := by decide +kernel
theorem dX5_parseSetting_168 : decode cX5_parseSetting 168 = .ok (.goto 11, 3) := by decide +kernel
theorem dX5_parseSetting_171 : decode cX5_parseSetting 171 = .ok (.aload_n 0, 1) := by decide +kernel
theorem dX5_parseSetting_172 : decode cX5_parseSetting 172 = .ok (.getfield 12, 3) := by decide +kernel
theorem dX5_parseSetting_175 : decode cX5_parseSetting 175 = .ok (.iconst 0, 1) := by decide +kernel
theorem dX5_parseSetting_176 : decode cX5_parseSetting 176 = .ok (.invokevirtual 40, 3) := by decide +kernel
theorem dX5_parseSetting_179 : decode cX5_parseSetting 179 = .ok (.return_, 1) := by decide +kernel
def f_X5_parseSetting (N : Nat) (R : Nat → Nat → Nat) (σ : SI) (x0 : Nat) (x1 : Nat) : Option (Unit × SI) := bd (f_X10_tookWord N R σ (R x0 0) 5) (fun a2 σ2 => if a2 = 0 then (bd (f_X10_tookWord N R σ2 (R x0 0) 6) (fun a5 σ5 => if a5 = 0 then (bd (f_X10_tookWord N R σ5 (R x0 0) 7) (fun a8 σ8 => if a8 = 0 then (bd (f_X10_tookWord N R σ8 (R x0 0) 8) (fun a11 σ11 => if a11 = 0 then (bd (f_X10_tookWord N R σ11 (R x0 0) 9) (fun a14 σ14 => if a14 = 0 then (bd (f_X10_need N R σ14 (R x0 0) (0 : Int32)) (fun _ σ17 => some ((), σ17))) else (bd (f_X5_parseWind N R σ14 x0 x1) (fun _ σ18 => some ((), σ18))))) else (bd (f_X10_takeNumber N R σ11 (R x0 0) (0 : Int32) (240 : Int32)) (fun a20 σ20 => sq (up σ20 x1 17 a20) (fun σ21 => some ((), σ21)))))) else (bd (f_X10_takeNumber N R σ8 (R x0 0) (0 : Int32) (60 : Int32)) (fun a23 σ23 => sq (up σ23 x1 15 a23) (fun σ24 => bd (f_X10_takeNumber N R σ24 (R x0 0) (0 : Int32) (60 : Int32)) (fun a26 σ26 => sq (up σ26 x1 16 a26) (fun σ27 => some ((), σ27)))))))) else (bd (f_X10_takeNumber N R σ5 (R x0 0) (1 : Int32) (240 : Int32)) (fun a29 σ29 => sq (up σ29 x1 14 a29) (fun σ30 => some ((), σ30)))))) else (bd (f_X10_takeNumber N R σ2 (R x0 0) (0 : Int32) (1439 : Int32)) (fun a32 σ32 => sq (up σ32 x1 12 a32) (fun σ33 => bd (f_X10_takeNumber N R σ33 (R x0 0) (σ33 x1 12) (1439 : Int32)) (fun a35 σ35 => sq (up σ35 x1 13 a35) (fun σ36 => some ((), σ36)))))))
set_option maxHeartbeats 4000000 in
set_option maxRecDepth 100000 in
theorem ok_X5_parseSetting {l : Launch} {g : GL} {R : Nat → Nat → Nat} {L : Nat → Nat → Int64} {N : Nat} {σ : SI} {x0 : Nat} {x1 : Nat} {r : (Unit × SI)} (h : f_X5_parseSetting N R σ x0 x1 = some r) (hSh : ShR R) (hx0 : Ok 202 x0 5) (hx1 : Ok 202 x1 9) : Ct l g 6 yX5_parseSetting cX5_parseSetting 2 none 202 202 0 0 [.ref (ga g x0), .ref (ga g x1)] (mkS σ R L) (PV R L r) := by
  refine Met.ofW (cc := cX5_parseSetting) (maxL := 2) (ret := none) (by decide) rfl ?_
  intro p e s m args below meth c s₁ B hml hv
  obtain ⟨rfl, hE, hLo, hWd⟩ := hv
  have hr : meth.sig.returnType = none := B.returns
  have C : Cx l g p s m meth c cX5_parseSetting 2 RX5 := ⟨B.exec, B.bytes, hml, findClass_of_methodNamed B.named, hE, hLo, B.notSynchronized⟩
  have S : S2 g s σ R L s.heap [] := ⟨hWd, va_S.rf⟩
  have hx := C.1
  have hb := C.2.1
  have hl := lv_entry ([.ref (ga g x0), .ref (ga g x1)]) (n := 2) (Nat.le_of_ble_eq_true rfl)
  rw [lg_entry_eq]
  generalize (lg_sl ([.ref (ga g x0), .ref (ga g x1)]) ++ List.replicate (2 - (lg_sl ([.ref (ga g x0), .ref (ga g x1)])).length) Slot.unset).toArray = ls at hl ⊢
  have hl : lv_has ls 2 [(0, .ref (ga g x0)), (1, .ref (ga g x1))] := hl
  generalize hH : s.heap = H at S ⊢
  generalize hlc : ([] : List Loc) = locs at S ⊢
  rw [f_X5_parseSetting] at h
  refine lv_aload_n hx hb dX5_parseSetting_0 rfl (lv_at hl 0 rfl) ?_
  have hR1 : Ok 202 (R x0 0) 10 := hSh x0 5 0 10 hx0.1 rfl
  refine x_getR C S KX5 hx0 0 (by decide) rfl rfl fl_RX5_12 hR1 dX5_parseSetting_1 ?_
  refine x_ldcs C (k := 71) (tx := "day") (ia := 5) (by decide) dX5_parseSetting_4 ?_
  obtain ⟨a2, σ2, hc2, h⟩ := bd_el h
  refine x_callVI C S KX10 hR1 (ok_X10_tookWord (L := L) hc2 hSh hR1 (by decide)) ⟨cd_X10_tookWord, ni_RX10, ml_RX5_50, in_X10_tookWord, sl_X10_tookWord⟩ ⟨by decide, by decide⟩ rfl (rm_ok (by decide) (by decide)) hl.1 rfl (Nat.le_of_ble_eq_true rfl) ⟨by decide, by decide⟩ dX5_parseSetting_6 (fun H locs S => ?_)
  refine lv_if_eq (tgt := 48) hx hb dX5_parseSetting_9 (by decide) (fun c3 => ?_) (fun c3 => ?_)
  · have h := it_p c3 h
    refine lv_aload_n hx hb dX5_parseSetting_48 rfl (lv_at hl 0 rfl) ?_
    have hR4 : Ok 202 (R x0 0) 10 := hSh x0 5 0 10 hx0.1 rfl
    refine x_getR C S KX5 hx0 0 (by decide) rfl rfl fl_RX5_12 hR4 dX5_parseSetting_49 ?_
    refine x_ldcs C (k := 83) (tx := "step") (ia := 6) (by decide) dX5_parseSetting_52 ?_
    obtain ⟨a5, σ5, hc5, h⟩ := bd_el h
    refine x_callVI C S KX10 hR4 (ok_X10_tookWord (L := L) hc5 hSh hR4 (by decide)) ⟨cd_X10_tookWord, ni_RX10, ml_RX5_50, in_X10_tookWord, sl_X10_tookWord⟩ ⟨by decide, by decide⟩ rfl (rm_ok (by decide) (by decide)) hl.1 rfl (Nat.le_of_ble_eq_true rfl) ⟨by decide, by decide⟩ dX5_parseSetting_54 (fun H locs S => ?_)
    refine lv_if_eq (tgt := 78) hx hb dX5_parseSetting_57 (by decide) (fun c6 => ?_) (fun c6 => ?_)
    · have h := it_p c6 h
      refine lv_aload_n hx hb dX5_parseSetting_78 rfl (lv_at hl 0 rfl) ?_
      have hR7 : Ok 202 (R x0 0) 10 := hSh x0 5 0 10 hx0.1 rfl
      refine x_getR C S KX5 hx0 0 (by decide) rfl rfl fl_RX5_12 hR7 dX5_parseSetting_79 ?_
      refine x_ldcs C (k := 87) (tx := "close") (ia := 7) (by decide) dX5_parseSetting_82 ?_
      obtain ⟨a8, σ8, hc8, h⟩ := bd_el h
      refine x_callVI C S KX10 hR7 (ok_X10_tookWord (L := L) hc8 hSh hR7 (by decide)) ⟨cd_X10_tookWord, ni_RX10, ml_RX5_50, in_X10_tookWord, sl_X10_tookWord⟩ ⟨by decide, by decide⟩ rfl (rm_ok (by decide) (by decide)) hl.1 rfl (Nat.le_of_ble_eq_true rfl) ⟨by decide, by decide⟩ dX5_parseSetting_84 (fun H locs S => ?_)
      refine lv_if_eq (tgt := 121) hx hb dX5_parseSetting_87 (by decide) (fun c9 => ?_) (fun c9 => ?_)
      · have h := it_p c9 h
        refine lv_aload_n hx hb dX5_parseSetting_121 rfl (lv_at hl 0 rfl) ?_
        have hR10 : Ok 202 (R x0 0) 10 := hSh x0 5 0 10 hx0.1 rfl
        refine x_getR C S KX5 hx0 0 (by decide) rfl rfl fl_RX5_12 hR10 dX5_parseSetting_122 ?_
        refine x_ldcs C (k := 95) (tx := "space") (ia := 8) (by decide) dX5_parseSetting_125 ?_
        obtain ⟨a11, σ11, hc11, h⟩ := bd_el h
        refine x_callVI C S KX10 hR10 (ok_X10_tookWord (L := L) hc11 hSh hR10 (by decide)) ⟨cd_X10_tookWord, ni_RX10, ml_RX5_50, in_X10_tookWord, sl_X10_tookWord⟩ ⟨by decide, by decide⟩ rfl (rm_ok (by decide) (by decide)) hl.1 rfl (Nat.le_of_ble_eq_true rfl) ⟨by decide, by decide⟩ dX5_parseSetting_127 (fun H locs S => ?_)
        refine lv_if_eq (tgt := 151) hx hb dX5_parseSetting_130 (by decide) (fun c12 => ?_) (fun c12 => ?_)
        · have h := it_p c12 h
          refine lv_aload_n hx hb dX5_parseSetting_151 rfl (lv_at hl 0 rfl) ?_
          have hR13 : Ok 202 (R x0 0) 10 := hSh x0 5 0 10 hx0.1 rfl
          refine x_getR C S KX5 hx0 0 (by decide) rfl rfl fl_RX5_12 hR13 dX5_parseSetting_152 ?_
          refine x_ldcs C (k := 100) (tx := "wind") (ia := 9) (by decide) dX5_parseSetting_155 ?_
          obtain ⟨a14, σ14, hc14, h⟩ := bd_el h
          refine x_callVI C S KX10 hR13 (ok_X10_tookWord (L := L) hc14 hSh hR13 (by decide)) ⟨cd_X10_tookWord, ni_RX10, ml_RX5_50, in_X10_tookWord, sl_X10_tookWord⟩ ⟨by decide, by decide⟩ rfl (rm_ok (by decide) (by decide)) hl.1 rfl (Nat.le_of_ble_eq_true rfl) ⟨by decide, by decide⟩ dX5_parseSetting_157 (fun H locs S => ?_)
          refine lv_if_eq (tgt := 171) hx hb dX5_parseSetting_160 (by decide) (fun c15 => ?_) (fun c15 => ?_)
          · have h := it_p c15 h
            refine lv_aload_n hx hb dX5_parseSetting_171 rfl (lv_at hl 0 rfl) ?_
            have hR16 : Ok 202 (R x0 0) 10 := hSh x0 5 0 10 hx0.1 rfl
            refine x_getR C S KX5 hx0 0 (by decide) rfl rfl fl_RX5_12 hR16 dX5_parseSetting_172 ?_
            refine lv_iconst (v := (0 : Int32)) hx hb dX5_parseSetting_175 (by decide) ?_
            obtain ⟨a17, σ17, hc17, h⟩ := bd_el h
            refine x_callVV C S KX10 hR16 (ok_X10_need (L := L) hc17 hSh hR16) ⟨cd_X10_need, ni_RX10, ml_RX5_40, in_X10_need, sl_X10_need⟩ ⟨by decide, by decide⟩ rfl (rm_ok (by decide) (by decide)) hl.1 rfl (Nat.le_of_ble_eq_true rfl) ⟨by decide, by decide⟩ dX5_parseSetting_176 (fun H locs S => ?_)
            exact x_vret C S hr h dX5_parseSetting_179
          · have h := it_n c15 h
            refine lv_aload_n hx hb dX5_parseSetting_163 rfl (lv_at hl 0 rfl) ?_
            refine lv_aload_n hx hb dX5_parseSetting_164 rfl (lv_at hl 1 rfl) ?_
            obtain ⟨a18, σ18, hc18, h⟩ := bd_el h
            refine x_callVV C S KX5 hx0 (ok_X5_parseWind (L := L) hc18 hSh hx0 hx1) ⟨cd_X5_parseWind, ni_RX5, ml_RX5_102, in_X5_parseWind, sl_X5_parseWind⟩ ⟨by decide, by decide⟩ rfl (rm_ok (by decide) (by decide)) hl.1 rfl (Nat.le_of_ble_eq_true rfl) ⟨by decide, by decide⟩ dX5_parseSetting_165 (fun H locs S => ?_)
            refine lv_goto (tgt := 179) hx hb dX5_parseSetting_168 (by decide) ?_
            exact x_vret C S hr h dX5_parseSetting_179
        · have h := it_n c12 h
          refine lv_aload_n hx hb dX5_parseSetting_133 rfl (lv_at hl 1 rfl) ?_
          refine lv_aload_n hx hb dX5_parseSetting_134 rfl (lv_at hl 0 rfl) ?_
          have hR19 : Ok 202 (R x0 0) 10 := hSh x0 5 0 10 hx0.1 rfl
          refine x_getR C S KX5 hx0 0 (by decide) rfl rfl fl_RX5_12 hR19 dX5_parseSetting_135 ?_
          refine lv_iconst (v := (0 : Int32)) hx hb dX5_parseSetting_138 (by decide) ?_
          refine lv_sipush (v := (240 : Int32)) hx hb dX5_parseSetting_139 (by decide) ?_
          obtain ⟨a20, σ20, hc20, h⟩ := bd_el h
          refine x_callVI C S KX10 hR19 (ok_X10_takeNumber (L := L) hc20 hSh hR19) ⟨cd_X10_takeNumber, ni_RX10, ml_RX5_73, in_X10_takeNumber, sl_X10_takeNumber⟩ ⟨by decide, by decide⟩ rfl (rm_ok (by decide) (by decide)) hl.1 rfl (Nat.le_of_ble_eq_true rfl) ⟨by decide, by decide⟩ dX5_parseSetting_142 (fun H locs S => ?_)
          obtain ⟨σ21, hs21, h⟩ := sq_el h
          refine x_putI C S KX9 hx1 17 (by decide) rfl rfl rfl ⟨rfl, rfl⟩ fl_RX5_97 dX5_parseSetting_145 hs21 (fun H locs S => ?_)
          refine lv_goto (tgt := 179) hx hb dX5_parseSetting_148 (by decide) ?_
          exact x_vret C S hr h dX5_parseSetting_179
      · have h := it_n c9 h
        refine lv_aload_n hx hb dX5_parseSetting_90 rfl (lv_at hl 1 rfl) ?_
        refine lv_aload_n hx hb dX5_parseSetting_91 rfl (lv_at hl 0 rfl) ?_
        have hR22 : Ok 202 (R x0 0) 10 := hSh x0 5 0 10 hx0.1 rfl
        refine x_getR C S KX5 hx0 0 (by decide) rfl rfl fl_RX5_12 hR22 dX5_parseSetting_92 ?_
        refine lv_iconst (v := (0 : Int32)) hx hb dX5_parseSetting_95 (by decide) ?_
        refine lv_bipush (v := (60 : Int32)) hx hb dX5_parseSetting_96 (by decide) ?_
        obtain ⟨a23, σ23, hc23, h⟩ := bd_el h
        refine x_callVI C S KX10 hR22 (ok_X10_takeNumber (L := L) hc23 hSh hR22) ⟨cd_X10_takeNumber, ni_RX10, ml_RX5_73, in_X10_takeNumber, sl_X10_takeNumber⟩ ⟨by decide, by decide⟩ rfl (rm_ok (by decide) (by decide)) hl.1 rfl (Nat.le_of_ble_eq_true rfl) ⟨by decide, by decide⟩ dX5_parseSetting_98 (fun H locs S => ?_)
        obtain ⟨σ24, hs24, h⟩ := sq_el h
        refine x_putI C S KX9 hx1 15 (by decide) rfl rfl rfl ⟨rfl, rfl⟩ fl_RX5_89 dX5_parseSetting_101 hs24 (fun H locs S => ?_)
        refine lv_aload_n hx hb dX5_parseSetting_104 rfl (lv_at hl 1 rfl) ?_
        refine lv_aload_n hx hb dX5_parseSetting_105 rfl (lv_at hl 0 rfl) ?_
        have hR25 : Ok 202 (R x0 0) 10 := hSh x0 5 0 10 hx0.1 rfl
        refine x_getR C S KX5 hx0 0 (by decide) rfl rfl fl_RX5_12 hR25 dX5_parseSetting_106 ?_
        refine lv_iconst (v := (0 : Int32)) hx hb dX5_parseSetting_109 (by decide) ?_
        refine lv_bipush (v := (60 : Int32)) hx hb dX5_parseSetting_110 (by decide) ?_
        obtain ⟨a26, σ26, hc26, h⟩ := bd_el h
        refine x_callVI C S KX10 hR25 (ok_X10_takeNumber (L := L) hc26 hSh hR25) ⟨cd_X10_takeNumber, ni_RX10, ml_RX5_73, in_X10_takeNumber, sl_X10_takeNumber⟩ ⟨by decide, by decide⟩ rfl (rm_ok (by decide) (by decide)) hl.1 rfl (Nat.le_of_ble_eq_true rfl) ⟨by decide, by decide⟩ dX5_parseSetting_112 (fun H locs S => ?_)
        obtain ⟨σ27, hs27, h⟩ := sq_el h
        refine x_putI C S KX9 hx1 16 (by decide) rfl rfl rfl ⟨rfl, rfl⟩ fl_RX5_92 dX5_parseSetting_115 hs27 (fun H locs S => ?_)
        refine lv_goto (tgt := 179) hx hb dX5_parseSetting_118 (by decide) ?_
        exact x_vret C S hr h dX5_parseSetting_179
    · have h := it_n c6 h
      refine lv_aload_n hx hb dX5_parseSetting_60 rfl (lv_at hl 1 rfl) ?_
      refine lv_aload_n hx hb dX5_parseSetting_61 rfl (lv_at hl 0 rfl) ?_
      have hR28 : Ok 202 (R x0 0) 10 := hSh x0 5 0 10 hx0.1 rfl
      refine x_getR C S KX5 hx0 0 (by decide) rfl rfl fl_RX5_12 hR28 dX5_parseSetting_62 ?_
      refine lv_iconst (v := (1 : Int32)) hx hb dX5_parseSetting_65 (by decide) ?_
      refine lv_sipush (v := (240 : Int32)) hx hb dX5_parseSetting_66 (by decide) ?_
      obtain ⟨a29, σ29, hc29, h⟩ := bd_el h
      refine x_callVI C S KX10 hR28 (ok_X10_takeNumber (L := L) hc29 hSh hR28) ⟨cd_X10_takeNumber, ni_RX10, ml_RX5_73, in_X10_takeNumber, sl_X10_takeNumber⟩ ⟨by decide, by decide⟩ rfl (rm_ok (by decide) (by decide)) hl.1 rfl (Nat.le_of_ble_eq_true rfl) ⟨by decide, by decide⟩ dX5_parseSetting_69 (fun H locs S => ?_)
      obtain ⟨σ30, hs30, h⟩ := sq_el h
      refine x_putI C S KX9 hx1 14 (by decide) rfl rfl rfl ⟨rfl, rfl⟩ fl_RX5_85 dX5_parseSetting_72 hs30 (fun H locs S => ?_)
      refine lv_goto (tgt := 179) hx hb dX5_parseSetting_75 (by decide) ?_
      exact x_vret C S hr h dX5_parseSetting_179
  · have h := it_n c3 h
    refine lv_aload_n hx hb dX5_parseSetting_12 rfl (lv_at hl 1 rfl) ?_
    refine lv_aload_n hx hb dX5_parseSetting_13 rfl (lv_at hl 0 rfl) ?_
    have hR31 : Ok 202 (R x0 0) 10 := hSh x0 5 0 10 hx0.1 rfl
    refine x_getR C S KX5 hx0 0 (by decide) rfl rfl fl_RX5_12 hR31 dX5_parseSetting_14 ?_
    refine lv_iconst (v := (0 : Int32)) hx hb dX5_parseSetting_17 (by decide) ?_
    refine lv_sipush (v := (1439 : Int32)) hx hb dX5_parseSetting_18 (by decide) ?_
    obtain ⟨a32, σ32, hc32, h⟩ := bd_el h
    refine x_callVI C S KX10 hR31 (ok_X10_takeNumber (L := L) hc32 hSh hR31) ⟨cd_X10_takeNumber, ni_RX10, ml_RX5_73, in_X10_takeNumber, sl_X10_takeNumber⟩ ⟨by decide, by decide⟩ rfl (rm_ok (by decide) (by decide)) hl.1 rfl (Nat.le_of_ble_eq_true rfl) ⟨by decide, by decide⟩ dX5_parseSetting_21 (fun H locs S => ?_)
    obtain ⟨σ33, hs33, h⟩ := sq_el h
    refine x_putI C S KX9 hx1 12 (by decide) rfl rfl rfl ⟨rfl, rfl⟩ fl_RX5_77 dX5_parseSetting_24 hs33 (fun H locs S => ?_)
    refine lv_aload_n hx hb dX5_parseSetting_27 rfl (lv_at hl 1 rfl) ?_
    refine lv_aload_n hx hb dX5_parseSetting_28 rfl (lv_at hl 0 rfl) ?_
    have hR34 : Ok 202 (R x0 0) 10 := hSh x0 5 0 10 hx0.1 rfl
    refine x_getR C S KX5 hx0 0 (by decide) rfl rfl fl_RX5_12 hR34 dX5_parseSetting_29 ?_
    refine lv_aload_n hx hb dX5_parseSetting_32 rfl (lv_at hl 1 rfl) ?_
    refine x_getI C S KX9 hx1 12 (by decide) rfl rfl fl_RX5_77 dX5_parseSetting_33 ?_
    refine lv_sipush (v := (1439 : Int32)) hx hb dX5_parseSetting_36 (by decide) ?_
    obtain ⟨a35, σ35, hc35, h⟩ := bd_el h
    refine x_callVI C S KX10 hR34 (ok_X10_takeNumber (L := L) hc35 hSh hR34) ⟨cd_X10_takeNumber, ni_RX10, ml_RX5_73, in_X10_takeNumber, sl_X10_takeNumber⟩ ⟨by decide, by decide⟩ rfl (rm_ok (by decide) (by decide)) hl.1 rfl (Nat.le_of_ble_eq_true rfl) ⟨by decide, by decide⟩ dX5_parseSetting_39 (fun H locs S => ?_)
    obtain ⟨σ36, hs36, h⟩ := sq_el h
    refine x_putI C S KX9 hx1 13 (by decide) rfl rfl rfl ⟨rfl, rfl⟩ fl_RX5_80 dX5_parseSetting_42 hs36 (fun H locs S => ?_)
    refine lv_goto (tgt := 179) hx hb dX5_parseSetting_45 (by decide) ?_
    exact x_vret C S hr h dX5_parseSetting_179
theorem dX5_parseNeighbour_0 : decode cX5_parseNeighbour 0 = .ok (.aload_n 1, 1) := by decide +kernel
theorem dX5_parseNeighbour_1 : decode cX5_parseNeighbour 1 = .ok (.getfield 112, 3) := by decide +kernel
theorem dX5_parseNeighbour_4 : decode cX5_parseNeighbour 4 = .ok (.bipush 8, 2) := by decide +kernel
theorem dX5_parseNeighbour_6 : decode cX5_parseNeighbour 6 = .ok (.if_icmp .lt 13, 3) := by decide +kernel
theorem dX5_parseNeighbour_9 : decode cX5_parseNeighbour 9 = .ok (.aload_n 0, 1) := by decide +kernel
theorem dX5_parseNeighbour_10 : decode cX5_parseNeighbour 10 = .ok (.getfield 12, 3) := by decide +kernel
theorem dX5_parseNeighbour_13 : decode cX5_parseNeighbour 13 = .ok (.iload_n 2, 1) := by decide +kernel
theorem dX5_parseNeighbour_14 : decode cX5_parseNeighbour 14 = .ok (.iconst 4, 1) := by decide +kernel
theorem dX5_parseNeighbour_15 : decode cX5_parseNeighbour 15 = .ok (.invokevirtual 115, 3) := by decide +kernel
theorem dX5_parseNeighbour_18 : decode cX5_parseNeighbour 18 = .ok (.return_, 1) := by decide +kernel
theorem dX5_parseNeighbour_19 : decode cX5_parseNeighbour 19 = .ok (.aload_n 1, 1) := by decide +kernel
theorem dX5_parseNeighbour_20 : decode cX5_parseNeighbour 20 = .ok (.getfield 112, 3) := by decide +kernel
theorem dX5_parseNeighbour_23 : decode cX5_parseNeighbour 23 = .ok (.istore_n 3, 1) := by decide +kernel
theorem dX5_parseNeighbour_24 : decode cX5_parseNeighbour 24 = .ok (.aload_n 1, 1) := by decide +kernel
theorem dX5_parseNeighbour_25 : decode cX5_parseNeighbour 25 = .ok (.getfield 119, 3) := by decide +kernel
theorem dX5_parseNeighbour_28 : decode cX5_parseNeighbour 28 = .ok (.iload_n 3, 1) := by decide +kernel
theorem dX5_parseNeighbour_29 : decode cX5_parseNeighbour 29 = .ok (.aaload, 1) := by decide +kernel
theorem dX5_parseNeighbour_30 : decode cX5_parseNeighbour 30 = .ok (.astore 4, 2) := by decide +kernel
theorem dX5_parseNeighbour_32 : decode cX5_parseNeighbour 32 = .ok (.aload_n 1, 1) := by decide +kernel
theorem dX5_parseNeighbour_33 : decode cX5_parseNeighbour 33 = .ok (.getfield 123, 3) := by decide +kernel
theorem dX5_parseNeighbour_36 : decode cX5_parseNeighbour 36 = .ok (.iload_n 3, 1) := by decide +kernel
theorem dX5_parseNeighbour_37 : decode cX5_parseNeighbour 37 = .ok (.aload_n 0, 1) := by decide +kernel
theorem dX5_parseNeighbour_38 : decode cX5_parseNeighbour 38 = .ok (.getfield 12, 3) := by decide +kernel
theorem dX5_parseNeighbour_41 : decode cX5_parseNeighbour 41 = .ok (.aload_n 1, 1) := by decide +kernel
theorem dX5_parseNeighbour_42 : decode cX5_parseNeighbour 42 = .ok (.getfield 123, 3) := by decide +kernel
theorem dX5_parseNeighbour_45 : decode cX5_parseNeighbour 45 = .ok (.iload_n 3, 1) := by decide +kernel
theorem dX5_parseNeighbour_46 : decode cX5_parseNeighbour 46 = .ok (.invokevirtual 126, 3) := by decide +kernel
theorem dX5_parseNeighbour_49 : decode cX5_parseNeighbour 49 = .ok (.iastore, 1) := by decide +kernel
theorem dX5_parseNeighbour_50 : decode cX5_parseNeighbour 50 = .ok (.aload 4, 2) := by decide +kernel
theorem dX5_parseNeighbour_52 : decode cX5_parseNeighbour 52 = .ok (.aload_n 0, 1) := by decide +kernel
theorem dX5_parseNeighbour_53 : decode cX5_parseNeighbour 53 = .ok (.getfield 12, 3) := by decide +kernel
theorem dX5_parseNeighbour_56 : decode cX5_parseNeighbour 56 = .ok (.iconst 0, 1) := by decide +kernel
theorem dX5_parseNeighbour_57 : decode cX5_parseNeighbour 57 = .ok (.sipush 999, 3) := by decide +kernel
theorem dX5_parseNeighbour_60 : decode cX5_parseNeighbour 60 = .ok (.invokevirtual 73, 3) := by decide +kernel
theorem dX5_parseNeighbour_63 : decode cX5_parseNeighbour 63 = .ok (.putfield 130, 3) := by decide +kernel
theorem dX5_parseNeighbour_66 : decode cX5_parseNeighbour 66 = .ok (.aload 4, 2) := by decide +kernel
theorem dX5_parseNeighbour_68 : decode cX5_parseNeighbour 68 = .ok (.aload_n 0, 1) := by decide +kernel
theorem dX5_parseNeighbour_69 : decode cX5_parseNeighbour 69 = .ok (.getfield 12, 3) := by decide +kernel
theorem dX5_parseNeighbour_72 : decode cX5_parseNeighbour 72 = .ok (.iconst 0, 1) := by decide +kernel
theorem dX5_parseNeighbour_73 : decode cX5_parseNeighbour 73 = .ok (.sipush 999, 3) := by decide +kernel
theorem dX5_parseNeighbour_76 : decode cX5_parseNeighbour 76 = .ok (.invokevirtual 73, 3) := by decide +kernel
theorem dX5_parseNeighbour_79 : decode cX5_parseNeighbour 79 = .ok (.putfield 135, 3) := by decide +kernel
theorem dX5_parseNeighbour_82 : decode cX5_parseNeighbour 82 = .ok (.aload 4, 2) := by decide +kernel
theorem dX5_parseNeighbour_84 : decode cX5_parseNeighbour 84 = .ok (.aload_n 0, 1) := by decide +kernel
theorem dX5_parseNeighbour_85 : decode cX5_parseNeighbour 85 = .ok (.getfield 12, 3) := by decide +kernel
theorem dX5_parseNeighbour_88 : decode cX5_parseNeighbour 88 = .ok (.iconst 0, 1) := by decide +kernel
theorem dX5_parseNeighbour_89 : decode cX5_parseNeighbour 89 = .ok (.ldc 138, 2) := by decide +kernel
theorem dX5_parseNeighbour_91 : decode cX5_parseNeighbour 91 = .ok (.invokevirtual 73, 3) := by decide +kernel
theorem dX5_parseNeighbour_94 : decode cX5_parseNeighbour 94 = .ok (.putfield 139, 3) := by decide +kernel
theorem dX5_parseNeighbour_97 : decode cX5_parseNeighbour 97 = .ok (.aload 4, 2) := by decide +kernel
theorem dX5_parseNeighbour_99 : decode cX5_parseNeighbour 99 = .ok (.iconst 0, 1) := by decide +kernel
theorem dX5_parseNeighbour_100 : decode cX5_parseNeighbour 100 = .ok (.putfield 142, 3) := by decide +kernel
theorem dX5_parseNeighbour_103 : decode cX5_parseNeighbour 103 = .ok (.iconst 0, 1) := by decide +kernel
theorem dX5_parseNeighbour_104 : decode cX5_parseNeighbour 104 = .ok (.istore 5, 2) := by decide +kernel
theorem dX5_parseNeighbour_106 : decode cX5_parseNeighbour 106 = .ok (.iload 5, 2) := by decide +kernel
theorem dX5_parseNeighbour_108 : decode cX5_parseNeighbour 108 = .ok (.iconst 4, 1) := by decide +kernel
theorem dX5_parseNeighbour_109 : decode cX5_parseNeighbour 109 = .ok (.if_icmp .gt 35, 3) := by decide +kernel
theorem dX5_parseNeighbour_112 : decode cX5_parseNeighbour 112 = .ok (.aload_n 0, 1) := by decide +kernel
theorem dX5_parseNeighbour_113 : decode cX5_parseNeighbour 113 = .ok (.getfield 12, 3) := by decide +kernel
theorem dX5_parseNeighbour_116 : decode cX5_parseNeighbour 116 = .ok (.invokevirtual 26, 3) := by decide +kernel
theorem dX5_parseNeighbour_119 : decode cX5_parseNeighbour 119 = .ok (.ifCond .ne 25, 3) := by decide +kernel
theorem dX5_parseNeighbour_122 : decode cX5_parseNeighbour 122 = .ok (.aload_n 0, 1) := by decide +kernel
theorem dX5_parseNeighbour_123 : decode cX5_parseNeighbour 123 = .ok (.getfield 12, 3) := by decide +kernel
theorem dX5_parseNeighbour_126 : decode cX5_parseNeighbour 126 = .ok (.invokevirtual 145, 3) := by decide +kernel
theorem dX5_parseNeighbour_129 : decode cX5_parseNeighbour 129 = .ok (.ifCond .eq 15, 3) := by decide +kernel
theorem dX5_parseNeighbour_132 : decode cX5_parseNeighbour 132 = .ok (.aload_n 0, 1) := by decide +kernel
theorem dX5_parseNeighbour_133 : decode cX5_parseNeighbour 133 = .ok (.aload 4, 2) := by decide +kernel
theorem dX5_parseNeighbour_135 : decode cX5_parseNeighbour 135 = .ok (.invokevirtual 148, 3) := by decide +kernel
theorem dX5_parseNeighbour_138 : decode cX5_parseNeighbour 138 = .ok (.iinc 5 1, 3) := by decide +kernel
theorem dX5_parseNeighbour_141 : decode cX5_parseNeighbour 141 = .ok (.goto (-35), 3) := by decide +kernel
theorem dX5_parseNeighbour_144 : decode cX5_parseNeighbour 144 = .ok (.aload_n 1, 1) := by decide +kernel
theorem dX5_parseNeighbour_145 : decode cX5_parseNeighbour 145 = .ok (.dup, 1) := by decide +kernel
theorem dX5_parseNeighbour_146 : decode cX5_parseNeighbour 146 = .ok (.getfield 112, 3) := by decide +kernel
theorem dX5_parseNeighbour_149 : decode cX5_parseNeighbour 149 = .ok (.iconst 1, 1) := by decide +kernel
theorem dX5_parseNeighbour_150 : decode cX5_parseNeighbour 150 = .ok (.iadd, 1) := by decide +kernel
theorem dX5_parseNeighbour_151 : decode cX5_parseNeighbour 151 = .ok (.putfield 112, 3) := by decide +kernel
theorem dX5_parseNeighbour_154 : decode cX5_parseNeighbour 154 = .ok (.return_, 1) := by decide +kernel
def f_X5_parseNeighbour_144 (N : Nat) (R : Nat → Nat → Nat) (σ : SI) (x1 : Nat) : Option (Unit × SI) := sq (up σ x1 9 ((σ x1 9) + (1 : Int32))) (fun σ22 => some ((), σ22))
def f_X5_parseNeighbour_106 (N : Nat) (R : Nat → Nat → Nat) : Nat → SI → Nat → Nat → Nat → Int32 → Option (Unit × SI)
  | 0, _, _, _, _, _ => none
  | n + 1, σ, x0, x1, x4, x5 => if (4 : Int32) < x5 then (f_X5_parseNeighbour_144 N R σ x1) else (bd (f_X10_failed N R σ (R x0 0)) (fun a24 σ24 => if a24 = 0 then (bd (f_X10_numberFollows N R σ24 (R x0 0)) (fun a27 σ27 => if a27 = 0 then (f_X5_parseNeighbour_144 N R σ27 x1) else (bd (f_X5_parseWindow N R σ27 x0 x4) (fun _ σ29 => f_X5_parseNeighbour_106 N R n σ29 x0 x1 x4 (x5 + 1))))) else (f_X5_parseNeighbour_144 N R σ24 x1)))
def f_X5_parseNeighbour (N : Nat) (R : Nat → Nat → Nat) (σ : SI) (x0 : Nat) (x1 : Nat) (x2 : Int32) : Option (Unit × SI) := if (σ x1 9) < (8 : Int32) then (ck (σ x1 9) 8 (bd (f_X10_takeName N R 8 σ (R x0 0) (R x1 3) (σ x1 9)) (fun a8 σ8 => ck (σ x1 9) 8 (sq (up σ8 (R x1 3) (σ x1 9).toNatClampNeg a8) (fun σ10 => bd (f_X10_takeNumber N R σ10 (R x0 0) (0 : Int32) (999 : Int32)) (fun a12 σ12 => sq (up σ12 (R (R x1 0) (σ x1 9).toNatClampNeg) 2 a12) (fun σ13 => bd (f_X10_takeNumber N R σ13 (R x0 0) (0 : Int32) (999 : Int32)) (fun a15 σ15 => sq (up σ15 (R (R x1 0) (σ x1 9).toNatClampNeg) 3 a15) (fun σ16 => bd (f_X10_takeNumber N R σ16 (R x0 0) (0 : Int32) (99999 : Int32)) (fun a18 σ18 => sq (up σ18 (R (R x1 0) (σ x1 9).toNatClampNeg) 4 a18) (fun σ19 => sq (up σ19 (R (R x1 0) (σ x1 9).toNatClampNeg) 5 (0 : Int32)) (fun σ20 => f_X5_parseNeighbour_106 N R N σ20 x0 x1 (R (R x1 0) (σ x1 9).toNatClampNeg) (0 : Int32))))))))))))) else (bd (f_X10_fail N R σ (R x0 0) x2 (4 : Int32)) (fun _ σ31 => some ((), σ31)))
set_option maxHeartbeats 4000000 in
set_option maxRecDepth 100000 in
theorem w_X5_parseNeighbour_144 {l : Launch} {g : GL} {p : Program} {e : Jvm.Env} {s : State} {m : MethodId} {args : Array Value} {below : List Frame} {meth : Method} {c : Code} {R : Nat → Nat → Nat} {L : Nat → Nat → Int64} {r : (Unit × SI)} {N : Nat} (C : Cx l g p s m meth c cX5_parseNeighbour 6 RX5) (hr : meth.sig.returnType = none) (hSh : ShR R) : ∀ (σ : SI) (x1 : Nat), f_X5_parseNeighbour_144 N R σ x1 = some r → Ok 202 x1 9 → ∀ (H : Heap) (locs : List Loc) (ls : Array Slot), S2 g s σ R L H locs → lv_has ls 6 [(1, .ref (ga g x1))] → W p l e (rmd 7 0 0) s m args below meth c H locs 0 0 (MQ below (Qg g 202 (PV R L r)) args s 0 0 (gA g)) (F0 m 144 ls []) := by
  have hx := C.1
  have hb := C.2.1
  intro σ x1 h hx1 H locs ls S hl
  rw [f_X5_parseNeighbour_144] at h
  refine lv_aload_n hx hb dX5_parseNeighbour_144 rfl (lv_at hl 0 rfl) ?_
  refine lv_dup hx hb dX5_parseNeighbour_145 rfl ?_
  refine x_getI C S KX9 hx1 9 (by decide) rfl rfl fl_RX5_112 dX5_parseNeighbour_146 ?_
  refine lv_iconst (v := (1 : Int32)) hx hb dX5_parseNeighbour_149 (by decide) ?_
  refine lv_iadd hx hb dX5_parseNeighbour_150 ?_
  obtain ⟨σ22, hs22, h⟩ := sq_el h
  refine x_putI C S KX9 hx1 9 (by decide) rfl rfl rfl ⟨rfl, rfl⟩ fl_RX5_112 dX5_parseNeighbour_151 hs22 (fun H locs S => ?_)
  exact x_vret C S hr h dX5_parseNeighbour_154
set_option maxHeartbeats 4000000 in
set_option maxRecDepth 100000 in
theorem w_X5_parseNeighbour_106 {l : Launch} {g : GL} {p : Program} {e : Jvm.Env} {s : State} {m : MethodId} {args : Array Value} {below : List Frame} {meth : Method} {c : Code} {R : Nat → Nat → Nat} {L : Nat → Nat → Int64} {r : (Unit × SI)} {N : Nat} (C : Cx l g p s m meth c cX5_parseNeighbour 6 RX5) (hr : meth.sig.returnType = none) (hSh : ShR R) : ∀ (n : Nat) (σ : SI) (x0 : Nat) (x1 : Nat) (x4 : Nat) (x5 : Int32), f_X5_parseNeighbour_106 N R n σ x0 x1 x4 x5 = some r → Ok 202 x0 5 → Ok 202 x1 9 → Ok 202 x4 4 → ∀ (H : Heap) (locs : List Loc) (ls : Array Slot), S2 g s σ R L H locs → lv_has ls 6 [(0, .ref (ga g x0)), (1, .ref (ga g x1)), (4, .ref (ga g x4)), (5, .int x5)] → W p l e (rmd 7 0 0) s m args below meth c H locs 0 0 (MQ below (Qg g 202 (PV R L r)) args s 0 0 (gA g)) (F0 m 106 ls []) := by
  have hx := C.1
  have hb := C.2.1
  intro n
  induction n with
  | zero =>
    intro σ x0 x1 x4 x5 h
    cases (show (none : Option (Unit × SI)) = some r from h)
  | succ n ih =>
    intro σ x0 x1 x4 x5 h hx0 hx1 hx4 H locs ls S hl
    rw [f_X5_parseNeighbour_106] at h
    refine lv_iload hx hb dX5_parseNeighbour_106 (lv_at hl 3 rfl) ?_
    refine lv_iconst (v := (4 : Int32)) hx hb dX5_parseNeighbour_108 (by decide) ?_
    refine lv_icmp_gt (tgt := 144) hx hb dX5_parseNeighbour_109 (by decide) (fun c21 => ?_) (fun c21 => ?_)
    · have h := it_p c21 h
      exact w_X5_parseNeighbour_144 C hr hSh σ x1 h hx1 H locs ls S (lv_sub hl [1] rfl)
    · have h := it_n c21 h
      refine lv_aload_n hx hb dX5_parseNeighbour_112 rfl (lv_at hl 0 rfl) ?_
      have hR23 : Ok 202 (R x0 0) 10 := hSh x0 5 0 10 hx0.1 rfl
      refine x_getR C S KX5 hx0 0 (by decide) rfl rfl fl_RX5_12 hR23 dX5_parseNeighbour_113 ?_
      obtain ⟨a24, σ24, hc24, h⟩ := bd_el h
      refine x_callVI C S KX10 hR23 (ok_X10_failed (L := L) hc24 hSh hR23) ⟨cd_X10_failed, ni_RX10, ml_RX5_26, in_X10_failed, sl_X10_failed⟩ ⟨by decide, by decide⟩ rfl (rm_ok (by decide) (by decide)) hl.1 rfl (Nat.le_of_ble_eq_true rfl) ⟨by decide, by decide⟩ dX5_parseNeighbour_116 (fun H locs S => ?_)
      refine lv_if_ne (tgt := 144) hx hb dX5_parseNeighbour_119 (by decide) (fun c25 => ?_) (fun c25 => ?_)
      · have h := it_n c25 h
        exact w_X5_parseNeighbour_144 C hr hSh σ24 x1 h hx1 H locs ls S (lv_sub hl [1] rfl)
      · have h := it_p c25 h
        refine lv_aload_n hx hb dX5_parseNeighbour_122 rfl (lv_at hl 0 rfl) ?_
        have hR26 : Ok 202 (R x0 0) 10 := hSh x0 5 0 10 hx0.1 rfl
        refine x_getR C S KX5 hx0 0 (by decide) rfl rfl fl_RX5_12 hR26 dX5_parseNeighbour_123 ?_
        obtain ⟨a27, σ27, hc27, h⟩ := bd_el h
        refine x_callVI C S KX10 hR26 (ok_X10_numberFollows (L := L) hc27 hSh hR26) ⟨cd_X10_numberFollows, ni_RX10, ml_RX5_145, in_X10_numberFollows, sl_X10_numberFollows⟩ ⟨by decide, by decide⟩ rfl (rm_ok (by decide) (by decide)) hl.1 rfl (Nat.le_of_ble_eq_true rfl) ⟨by decide, by decide⟩ dX5_parseNeighbour_126 (fun H locs S => ?_)
        refine lv_if_eq (tgt := 144) hx hb dX5_parseNeighbour_129 (by decide) (fun c28 => ?_) (fun c28 => ?_)
        · have h := it_p c28 h
          exact w_X5_parseNeighbour_144 C hr hSh σ27 x1 h hx1 H locs ls S (lv_sub hl [1] rfl)
        · have h := it_n c28 h
          refine lv_aload_n hx hb dX5_parseNeighbour_132 rfl (lv_at hl 0 rfl) ?_
          refine lv_aload hx hb dX5_parseNeighbour_133 (lv_at hl 2 rfl) ?_
          obtain ⟨a29, σ29, hc29, h⟩ := bd_el h
          refine x_callVV C S KX5 hx0 (ok_X5_parseWindow (L := L) hc29 hSh hx0 hx4) ⟨cd_X5_parseWindow, ni_RX5, ml_RX5_148, in_X5_parseWindow, sl_X5_parseWindow⟩ ⟨by decide, by decide⟩ rfl (rm_ok (by decide) (by decide)) hl.1 rfl (Nat.le_of_ble_eq_true rfl) ⟨by decide, by decide⟩ dX5_parseNeighbour_135 (fun H locs S => ?_)
          refine lv_iinc (v := x5 + 1) (lv' := [(5, .int (x5 + 1)), (0, .ref (ga g x0)), (1, .ref (ga g x1)), (4, .ref (ga g x4))]) hx hb dX5_parseNeighbour_138 hl (k := 3) rfl rfl (by decide) rfl (fun ls hl => ?_)
          refine lv_goto (tgt := 106) hx hb dX5_parseNeighbour_141 (by decide) ?_
          exact ih σ29 x0 x1 x4 (x5 + 1) h hx0 hx1 hx4 H locs ls S (lv_sub hl [1, 2, 3, 0] rfl)
set_option maxHeartbeats 4000000 in
set_option maxRecDepth 100000 in
theorem ok_X5_parseNeighbour {l : Launch} {g : GL} {R : Nat → Nat → Nat} {L : Nat → Nat → Int64} {N : Nat} {σ : SI} {x0 : Nat} {x1 : Nat} {x2 : Int32} {r : (Unit × SI)} (h : f_X5_parseNeighbour N R σ x0 x1 x2 = some r) (hSh : ShR R) (hx0 : Ok 202 x0 5) (hx1 : Ok 202 x1 9) : Ct l g 7 yX5_parseNeighbour cX5_parseNeighbour 6 none 202 202 0 0 [.ref (ga g x0), .ref (ga g x1), .int x2] (mkS σ R L) (PV R L r) := by
  refine Met.ofW (cc := cX5_parseNeighbour) (maxL := 6) (ret := none) (by decide) rfl ?_
  intro p e s m args below meth c s₁ B hml hv
  obtain ⟨rfl, hE, hLo, hWd⟩ := hv
  have hr : meth.sig.returnType = none := B.returns
  have C : Cx l g p s m meth c cX5_parseNeighbour 6 RX5 := ⟨B.exec, B.bytes, hml, findClass_of_methodNamed B.named, hE, hLo, B.notSynchronized⟩
  have S : S2 g s σ R L s.heap [] := ⟨hWd, va_S.rf⟩
  have hx := C.1
  have hb := C.2.1
  have hl := lv_entry ([.ref (ga g x0), .ref (ga g x1), .int x2]) (n := 6) (Nat.le_of_ble_eq_true rfl)
  rw [lg_entry_eq]
  generalize (lg_sl ([.ref (ga g x0), .ref (ga g x1), .int x2]) ++ List.replicate (6 - (lg_sl ([.ref (ga g x0), .ref (ga g x1), .int x2])).length) Slot.unset).toArray = ls at hl ⊢
  have hl : lv_has ls 6 [(0, .ref (ga g x0)), (1, .ref (ga g x1)), (2, .int x2)] := hl
  generalize hH : s.heap = H at S ⊢
  generalize hlc : ([] : List Loc) = locs at S ⊢
  rw [f_X5_parseNeighbour] at h
  refine lv_aload_n hx hb dX5_parseNeighbour_0 rfl (lv_at hl 1 rfl) ?_
  refine x_getI C S KX9 hx1 9 (by decide) rfl rfl fl_RX5_112 dX5_parseNeighbour_1 ?_
  refine lv_bipush (v := (8 : Int32)) hx hb dX5_parseNeighbour_4 (by decide) ?_
  refine lv_icmp_lt (tgt := 19) hx hb dX5_parseNeighbour_6 (by decide) (fun c1 => ?_) (fun c1 => ?_)
  · have h := it_p c1 h
    refine lv_aload_n hx hb dX5_parseNeighbour_19 rfl (lv_at hl 1 rfl) ?_
    refine x_getI C S KX9 hx1 9 (by decide) rfl rfl fl_RX5_112 dX5_parseNeighbour_20 ?_
    refine lv_istore_n (lv' := [(3, .int (σ x1 9)), (0, .ref (ga g x0)), (1, .ref (ga g x1)), (2, .int x2)]) hx hb dX5_parseNeighbour_23 rfl hl (by decide) rfl (fun ls hl => ?_)
    refine lv_aload_n hx hb dX5_parseNeighbour_24 rfl (lv_at hl 2 rfl) ?_
    have hR2 : Ok 202 (R x1 0) 60008 := hSh x1 9 0 60008 hx1.1 rfl
    refine x_getR C S KX9 hx1 0 (by decide) rfl rfl fl_RX5_119 hR2 dX5_parseNeighbour_25 ?_
    refine lv_iload_n hx hb dX5_parseNeighbour_28 rfl (lv_at hl 0 rfl) ?_
    obtain ⟨hi3, h⟩ := ck_el h
    have hR4 : Ok 202 (R (R x1 0) (σ x1 9).toNatClampNeg) 4 := hSh (R x1 0) 60008 (σ x1 9).toNatClampNeg 4 hR2.1 (if_pos (vp_lt hi3))
    refine x_aald (len := 8) C S (by decide) 5 (by decide) rfl hR2 hi3 hR4 dX5_parseNeighbour_29 ?_
    refine lv_astore (lv' := [(4, .ref (ga g (R (R x1 0) (σ x1 9).toNatClampNeg))), (3, .int (σ x1 9)), (0, .ref (ga g x0)), (1, .ref (ga g x1)), (2, .int x2)]) hx hb dX5_parseNeighbour_30 hl (by decide) rfl (fun ls hl => ?_)
    refine lv_aload_n hx hb dX5_parseNeighbour_32 rfl (lv_at hl 3 rfl) ?_
    have hR5 : Ok 202 (R x1 3) 10008 := hSh x1 9 3 10008 hx1.1 rfl
    refine x_getR C S KX9 hx1 3 (by decide) rfl rfl fl_RX5_123 hR5 dX5_parseNeighbour_33 ?_
    refine lv_iload_n hx hb dX5_parseNeighbour_36 rfl (lv_at hl 1 rfl) ?_
    refine lv_aload_n hx hb dX5_parseNeighbour_37 rfl (lv_at hl 2 rfl) ?_
    have hR6 : Ok 202 (R x0 0) 10 := hSh x0 5 0 10 hx0.1 rfl
    refine x_getR C S KX5 hx0 0 (by decide) rfl rfl fl_RX5_12 hR6 dX5_parseNeighbour_38 ?_
    refine lv_aload_n hx hb dX5_parseNeighbour_41 rfl (lv_at hl 3 rfl) ?_
    have hR7 : Ok 202 (R x1 3) 10008 := hSh x1 9 3 10008 hx1.1 rfl
    refine x_getR C S KX9 hx1 3 (by decide) rfl rfl fl_RX5_123 hR7 dX5_parseNeighbour_42 ?_
    refine lv_iload_n hx hb dX5_parseNeighbour_45 rfl (lv_at hl 1 rfl) ?_
    obtain ⟨a8, σ8, hc8, h⟩ := bd_el h
    refine x_callVI C S KX10 hR6 (ok_X10_takeName (L := L) hc8 hSh (by decide) hR6 hR7) ⟨cd_X10_takeName, ni_RX10, ml_RX5_126, in_X10_takeName, sl_X10_takeName⟩ ⟨by decide, by decide⟩ rfl (rm_ok (by decide) (by decide)) hl.1 rfl (Nat.le_of_ble_eq_true rfl) ⟨by decide, by decide⟩ dX5_parseNeighbour_46 (fun H locs S => ?_)
    obtain ⟨hi9, h⟩ := ck_el h
    obtain ⟨σ10, hs10, h⟩ := sq_el h
    refine x_iast (len := 8) C S (by decide) hR5 hi9 dX5_parseNeighbour_49 hs10 (fun H locs S => ?_)
    refine lv_aload hx hb dX5_parseNeighbour_50 (lv_at hl 0 rfl) ?_
    refine lv_aload_n hx hb dX5_parseNeighbour_52 rfl (lv_at hl 2 rfl) ?_
    have hR11 : Ok 202 (R x0 0) 10 := hSh x0 5 0 10 hx0.1 rfl
    refine x_getR C S KX5 hx0 0 (by decide) rfl rfl fl_RX5_12 hR11 dX5_parseNeighbour_53 ?_
    refine lv_iconst (v := (0 : Int32)) hx hb dX5_parseNeighbour_56 (by decide) ?_
    refine lv_sipush (v := (999 : Int32)) hx hb dX5_parseNeighbour_57 (by decide) ?_
    obtain ⟨a12, σ12, hc12, h⟩ := bd_el h
    refine x_callVI C S KX10 hR11 (ok_X10_takeNumber (L := L) hc12 hSh hR11) ⟨cd_X10_takeNumber, ni_RX10, ml_RX5_73, in_X10_takeNumber, sl_X10_takeNumber⟩ ⟨by decide, by decide⟩ rfl (rm_ok (by decide) (by decide)) hl.1 rfl (Nat.le_of_ble_eq_true rfl) ⟨by decide, by decide⟩ dX5_parseNeighbour_60 (fun H locs S => ?_)
    obtain ⟨σ13, hs13, h⟩ := sq_el h
    refine x_putI C S KX4 hR4 2 (by decide) rfl rfl rfl ⟨rfl, rfl⟩ fl_RX5_130 dX5_parseNeighbour_63 hs13 (fun H locs S => ?_)
    refine lv_aload hx hb dX5_parseNeighbour_66 (lv_at hl 0 rfl) ?_
    refine lv_aload_n hx hb dX5_parseNeighbour_68 rfl (lv_at hl 2 rfl) ?_
    have hR14 : Ok 202 (R x0 0) 10 := hSh x0 5 0 10 hx0.1 rfl
    refine x_getR C S KX5 hx0 0 (by decide) rfl rfl fl_RX5_12 hR14 dX5_parseNeighbour_69 ?_
    refine lv_iconst (v := (0 : Int32)) hx hb dX5_parseNeighbour_72 (by decide) ?_
    refine lv_sipush (v := (999 : Int32)) hx hb dX5_parseNeighbour_73 (by decide) ?_
    obtain ⟨a15, σ15, hc15, h⟩ := bd_el h
    refine x_callVI C S KX10 hR14 (ok_X10_takeNumber (L := L) hc15 hSh hR14) ⟨cd_X10_takeNumber, ni_RX10, ml_RX5_73, in_X10_takeNumber, sl_X10_takeNumber⟩ ⟨by decide, by decide⟩ rfl (rm_ok (by decide) (by decide)) hl.1 rfl (Nat.le_of_ble_eq_true rfl) ⟨by decide, by decide⟩ dX5_parseNeighbour_76 (fun H locs S => ?_)
    obtain ⟨σ16, hs16, h⟩ := sq_el h
    refine x_putI C S KX4 hR4 3 (by decide) rfl rfl rfl ⟨rfl, rfl⟩ fl_RX5_135 dX5_parseNeighbour_79 hs16 (fun H locs S => ?_)
    refine lv_aload hx hb dX5_parseNeighbour_82 (lv_at hl 0 rfl) ?_
    refine lv_aload_n hx hb dX5_parseNeighbour_84 rfl (lv_at hl 2 rfl) ?_
    have hR17 : Ok 202 (R x0 0) 10 := hSh x0 5 0 10 hx0.1 rfl
    refine x_getR C S KX5 hx0 0 (by decide) rfl rfl fl_RX5_12 hR17 dX5_parseNeighbour_85 ?_
    refine lv_iconst (v := (0 : Int32)) hx hb dX5_parseNeighbour_88 (by decide) ?_
    refine lv_ldc (v := (99999 : Int32)) hx hb C.2.2.2.1 (C.2.2.2.2.1.w kc_RX5_138) dX5_parseNeighbour_89 ?_
    obtain ⟨a18, σ18, hc18, h⟩ := bd_el h
    refine x_callVI C S KX10 hR17 (ok_X10_takeNumber (L := L) hc18 hSh hR17) ⟨cd_X10_takeNumber, ni_RX10, ml_RX5_73, in_X10_takeNumber, sl_X10_takeNumber⟩ ⟨by decide, by decide⟩ rfl (rm_ok (by decide) (by decide)) hl.1 rfl (Nat.le_of_ble_eq_true rfl) ⟨by decide, by decide⟩ dX5_parseNeighbour_91 (fun H locs S => ?_)
    obtain ⟨σ19, hs19, h⟩ := sq_el h
    refine x_putI C S KX4 hR4 4 (by decide) rfl rfl rfl ⟨rfl, rfl⟩ fl_RX5_139 dX5_parseNeighbour_94 hs19 (fun H locs S => ?_)
    refine lv_aload hx hb dX5_parseNeighbour_97 (lv_at hl 0 rfl) ?_
    refine lv_iconst (v := (0 : Int32)) hx hb dX5_parseNeighbour_99 (by decide) ?_
    obtain ⟨σ20, hs20, h⟩ := sq_el h
    refine x_putI C S KX4 hR4 5 (by decide) rfl rfl rfl ⟨rfl, rfl⟩ fl_RX5_142 dX5_parseNeighbour_100 hs20 (fun H locs S => ?_)
    refine lv_iconst (v := (0 : Int32)) hx hb dX5_parseNeighbour_103 (by decide) ?_
    refine lv_istore (lv' := [(5, .int (0 : Int32)), (4, .ref (ga g (R (R x1 0) (σ x1 9).toNatClampNeg))), (3, .int (σ x1 9)), (0, .ref (ga g x0)), (1, .ref (ga g x1)), (2, .int x2)]) hx hb dX5_parseNeighbour_104 hl (by decide) rfl (fun ls hl => ?_)
    exact w_X5_parseNeighbour_106 C hr hSh N σ20 x0 x1 (R (R x1 0) (σ x1 9).toNatClampNeg) (0 : Int32) h hx0 hx1 hR4 H locs ls S (lv_sub hl [3, 4, 1, 0] rfl)
  · have h := it_n c1 h
    refine lv_aload_n hx hb dX5_parseNeighbour_9 rfl (lv_at hl 0 rfl) ?_
    have hR30 : Ok 202 (R x0 0) 10 := hSh x0 5 0 10 hx0.1 rfl
    refine x_getR C S KX5 hx0 0 (by decide) rfl rfl fl_RX5_12 hR30 dX5_parseNeighbour_10 ?_
    refine lv_iload_n hx hb dX5_parseNeighbour_13 rfl (lv_at hl 2 rfl) ?_
    refine lv_iconst (v := (4 : Int32)) hx hb dX5_parseNeighbour_14 (by decide) ?_
    obtain ⟨a31, σ31, hc31, h⟩ := bd_el h
    refine x_callVV C S KX10 hR30 (ok_X10_fail (L := L) hc31 hSh hR30) ⟨cd_X10_fail, ni_RX10, ml_RX5_115, in_X10_fail, sl_X10_fail⟩ ⟨by decide, by decide⟩ rfl (rm_ok (by decide) (by decide)) hl.1 rfl (Nat.le_of_ble_eq_true rfl) ⟨by decide, by decide⟩ dX5_parseNeighbour_15 (fun H locs S => ?_)
    exact x_vret C S hr h dX5_parseNeighbour_18
theorem dX5_parseBlast_0 : decode cX5_parseBlast 0 = .ok (.aload_n 1, 1) := by decide +kernel
theorem dX5_parseBlast_1 : decode cX5_parseBlast 1 = .ok (.getfield 181, 3) := by decide +kernel
theorem dX5_parseBlast_4 : decode cX5_parseBlast 4 = .ok (.bipush 6, 2) := by decide +kernel
theorem dX5_parseBlast_6 : decode cX5_parseBlast 6 = .ok (.if_icmp .lt 13, 3) := by decide +kernel
theorem dX5_parseBlast_9 : decode cX5_parseBlast 9 = .ok (.aload_n 0, 1) := by decide +kernel
theorem dX5_parseBlast_10 : decode cX5_parseBlast 10 = .ok (.getfield 12, 3) := by decide +kernel
theorem dX5_parseBlast_13 : decode cX5_parseBlast 13 = .ok (.iload_n 2, 1) := by decide +kernel
theorem dX5_parseBlast_14 : decode cX5_parseBlast 14 = .ok (.iconst 4, 1) := by decide +kernel
theorem dX5_parseBlast_15 : decode cX5_parseBlast 15 = .ok (.invokevirtual 115, 3) := by decide +kernel
theorem dX5_parseBlast_18 : decode cX5_parseBlast 18 = .ok (.return_, 1) := by decide +kernel
theorem dX5_parseBlast_19 : decode cX5_parseBlast 19 = .ok (.aload_n 1, 1) := by decide +kernel
theorem dX5_parseBlast_20 : decode cX5_parseBlast 20 = .ok (.getfield 181, 3) := by decide +kernel
theorem dX5_parseBlast_23 : decode cX5_parseBlast 23 = .ok (.istore_n 3, 1) := by decide +kernel
theorem dX5_parseBlast_24 : decode cX5_parseBlast 24 = .ok (.aload_n 1, 1) := by decide +kernel
theorem dX5_parseBlast_25 : decode cX5_parseBlast 25 = .ok (.getfield 184, 3) := by decide +kernel
theorem dX5_parseBlast_28 : decode cX5_parseBlast 28 = .ok (.iload_n 3, 1) := by decide +kernel
theorem dX5_parseBlast_29 : decode cX5_parseBlast 29 = .ok (.aaload, 1) := by decide +kernel
theorem dX5_parseBlast_30 : decode cX5_parseBlast 30 = .ok (.astore 4, 2) := by decide +kernel
theorem dX5_parseBlast_32 : decode cX5_parseBlast 32 = .ok (.aload_n 1, 1) := by decide +kernel
theorem dX5_parseBlast_33 : decode cX5_parseBlast 33 = .ok (.getfield 188, 3) := by decide +kernel
theorem dX5_parseBlast_36 : decode cX5_parseBlast 36 = .ok (.iload_n 3, 1) := by decide +kernel
theorem dX5_parseBlast_37 : decode cX5_parseBlast 37 = .ok (.aload_n 0, 1) := by decide +kernel
theorem dX5_parseBlast_38 : decode cX5_parseBlast 38 = .ok (.getfield 12, 3) := by decide +kernel
theorem dX5_parseBlast_41 : decode cX5_parseBlast 41 = .ok (.aload_n 1, 1) := by decide +kernel
theorem dX5_parseBlast_42 : decode cX5_parseBlast 42 = .ok (.getfield 188, 3) := by decide +kernel
theorem dX5_parseBlast_45 : decode cX5_parseBlast 45 = .ok (.iload_n 3, 1) := by decide +kernel
theorem dX5_parseBlast_46 : decode cX5_parseBlast 46 = .ok (.invokevirtual 126, 3) := by decide +kernel
theorem dX5_parseBlast_49 : decode cX5_parseBlast 49 = .ok (.iastore, 1) := by decide +kernel
theorem dX5_parseBlast_50 : decode cX5_parseBlast 50 = .ok (.aload 4, 2) := by decide +kernel
theorem dX5_parseBlast_52 : decode cX5_parseBlast 52 = .ok (.aload_n 0, 1) := by decide +kernel
theorem dX5_parseBlast_53 : decode cX5_parseBlast 53 = .ok (.getfield 12, 3) := by decide +kernel
theorem dX5_parseBlast_56 : decode cX5_parseBlast 56 = .ok (.iconst 0, 1) := by decide +kernel
theorem dX5_parseBlast_57 : decode cX5_parseBlast 57 = .ok (.sipush 999, 3) := by decide +kernel
theorem dX5_parseBlast_60 : decode cX5_parseBlast 60 = .ok (.invokevirtual 73, 3) := by decide +kernel
theorem dX5_parseBlast_63 : decode cX5_parseBlast 63 = .ok (.putfield 191, 3) := by decide +kernel
theorem dX5_parseBlast_66 : decode cX5_parseBlast 66 = .ok (.aload 4, 2) := by decide +kernel
theorem dX5_parseBlast_68 : decode cX5_parseBlast 68 = .ok (.aload_n 0, 1) := by decide +kernel
theorem dX5_parseBlast_69 : decode cX5_parseBlast 69 = .ok (.getfield 12, 3) := by decide +kernel
theorem dX5_parseBlast_72 : decode cX5_parseBlast 72 = .ok (.iconst 0, 1) := by decide +kernel
theorem dX5_parseBlast_73 : decode cX5_parseBlast 73 = .ok (.sipush 999, 3) := by decide +kernel
theorem dX5_parseBlast_76 : decode cX5_parseBlast 76 = .ok (.invokevirtual 73, 3) := by decide +kernel
theorem dX5_parseBlast_79 : decode cX5_parseBlast 79 = .ok (.putfield 194, 3) := by decide +kernel
theorem dX5_parseBlast_82 : decode cX5_parseBlast 82 = .ok (.aload 4, 2) := by decide +kernel
theorem dX5_parseBlast_84 : decode cX5_parseBlast 84 = .ok (.aload_n 0, 1) := by decide +kernel
theorem dX5_parseBlast_85 : decode cX5_parseBlast 85 = .ok (.getfield 12, 3) := by decide +kernel
theorem dX5_parseBlast_88 : decode cX5_parseBlast 88 = .ok (.iconst 1, 1) := by decide +kernel
theorem dX5_parseBlast_89 : decode cX5_parseBlast 89 = .ok (.sipush 500, 3) := by decide +kernel
theorem dX5_parseBlast_92 : decode cX5_parseBlast 92 = .ok (.invokevirtual 73, 3) := by decide +kernel
theorem dX5_parseBlast_95 : decode cX5_parseBlast 95 = .ok (.putfield 195, 3) := by decide +kernel
theorem dX5_parseBlast_98 : decode cX5_parseBlast 98 = .ok (.aload 4, 2) := by decide +kernel
theorem dX5_parseBlast_100 : decode cX5_parseBlast 100 = .ok (.iconst 0, 1) := by decide +kernel
theorem dX5_parseBlast_101 : decode cX5_parseBlast 101 = .ok (.putfield 198, 3) := by decide +kernel
theorem dX5_parseBlast_104 : decode cX5_parseBlast 104 = .ok (.aload 4, 2) := by decide +kernel
theorem dX5_parseBlast_106 : decode cX5_parseBlast 106 = .ok (.iconst 0, 1) := by decide +kernel
theorem dX5_parseBlast_107 : decode cX5_parseBlast 107 = .ok (.putfield 202, 3) := by decide +kernel
theorem dX5_parseBlast_110 : decode cX5_parseBlast 110 = .ok (.aload_n 0, 1) := by decide +kernel
theorem dX5_parseBlast_111 : decode cX5_parseBlast 111 = .ok (.aload 4, 2) := by decide +kernel
theorem dX5_parseBlast_113 : decode cX5_parseBlast 113 = .ok (.invokevirtual 205, 3) := by decide +kernel
theorem dX5_parseBlast_116 : decode cX5_parseBlast 116 = .ok (.iconst 0, 1) := by decide +kernel
theorem dX5_parseBlast_117 : decode cX5_parseBlast 117 = .ok (.istore 5, 2) := by decide +kernel
theorem dX5_parseBlast_119 : decode cX5_parseBlast 119 = .ok (.iload 5, 2) := by decide +kernel
theorem dX5_parseBlast_121 : decode cX5_parseBlast 121 = .ok (.bipush 12, 2) := by decide +kernel
theorem dX5_parseBlast_123 : decode cX5_parseBlast 123 = .ok (.if_icmp .ge 35, 3) := by decide +kernel
theorem dX5_parseBlast_126 : decode cX5_parseBlast 126 = .ok (.aload_n 0, 1) := by decide +kernel
theorem dX5_parseBlast_127 : decode cX5_parseBlast 127 = .ok (.getfield 12, 3) := by decide +kernel
theorem dX5_parseBlast_130 : decode cX5_parseBlast 130 = .ok (.invokevirtual 26, 3) := by decide +kernel
theorem dX5_parseBlast_133 : decode cX5_parseBlast 133 = .ok (.ifCond .ne 25, 3) := by decide +kernel
theorem dX5_parseBlast_136 : decode cX5_parseBlast 136 = .ok (.aload_n 0, 1) := by decide +kernel
theorem dX5_parseBlast_137 : decode cX5_parseBlast 137 = .ok (.getfield 12, 3) := by decide +kernel
theorem dX5_parseBlast_140 : decode cX5_parseBlast 140 = .ok (.invokevirtual 145, 3) := by decide +kernel
theorem dX5_parseBlast_143 : decode cX5_parseBlast 143 = .ok (.ifCond .eq 15, 3) := by decide +kernel
theorem dX5_parseBlast_146 : decode cX5_parseBlast 146 = .ok (.aload_n 0, 1) := by decide +kernel
theorem dX5_parseBlast_147 : decode cX5_parseBlast 147 = .ok (.aload 4, 2) := by decide +kernel
theorem dX5_parseBlast_149 : decode cX5_parseBlast 149 = .ok (.invokevirtual 205, 3) := by decide +kernel
theorem dX5_parseBlast_152 : decode cX5_parseBlast 152 = .ok (.iinc 5 1, 3) := by decide +kernel
theorem dX5_parseBlast_155 : decode cX5_parseBlast 155 = .ok (.goto (-36), 3) := by decide +kernel
theorem dX5_parseBlast_158 : decode cX5_parseBlast 158 = .ok (.aload_n 1, 1) := by decide +kernel
theorem dX5_parseBlast_159 : decode cX5_parseBlast 159 = .ok (.dup, 1) := by decide +kernel
theorem dX5_parseBlast_160 : decode cX5_parseBlast 160 = .ok (.getfield 181, 3) := by decide +kernel
theorem dX5_parseBlast_163 : decode cX5_parseBlast 163 = .ok (.iconst 1, 1) := by decide +kernel
theorem dX5_parseBlast_164 : decode cX5_parseBlast 164 = .ok (.iadd, 1) := by decide +kernel
theorem dX5_parseBlast_165 : decode cX5_parseBlast 165 = .ok (.putfield 181, 3) := by decide +kernel
theorem dX5_parseBlast_168 : decode cX5_parseBlast 168 = .ok (.return_, 1) := by decide +kernel
def f_X5_parseBlast_158 (N : Nat) (R : Nat → Nat → Nat) (σ : SI) (x1 : Nat) : Option (Unit × SI) := sq (up σ x1 11 ((σ x1 11) + (1 : Int32))) (fun σ24 => some ((), σ24))
def f_X5_parseBlast_119 (N : Nat) (R : Nat → Nat → Nat) : Nat → SI → Nat → Nat → Nat → Int32 → Option (Unit × SI)
  | 0, _, _, _, _, _ => none
  | n + 1, σ, x0, x1, x4, x5 => if (12 : Int32) ≤ x5 then (f_X5_parseBlast_158 N R σ x1) else (bd (f_X10_failed N R σ (R x0 0)) (fun a26 σ26 => if a26 = 0 then (bd (f_X10_numberFollows N R σ26 (R x0 0)) (fun a29 σ29 => if a29 = 0 then (f_X5_parseBlast_158 N R σ29 x1) else (bd (f_X5_parseCharge N R σ29 x0 x4) (fun _ σ31 => f_X5_parseBlast_119 N R n σ31 x0 x1 x4 (x5 + 1))))) else (f_X5_parseBlast_158 N R σ26 x1)))
def f_X5_parseBlast (N : Nat) (R : Nat → Nat → Nat) (σ : SI) (x0 : Nat) (x1 : Nat) (x2 : Int32) : Option (Unit × SI) := if (σ x1 11) < (6 : Int32) then (ck (σ x1 11) 6 (bd (f_X10_takeName N R 6 σ (R x0 0) (R x1 5) (σ x1 11)) (fun a8 σ8 => ck (σ x1 11) 6 (sq (up σ8 (R x1 5) (σ x1 11).toNatClampNeg a8) (fun σ10 => bd (f_X10_takeNumber N R σ10 (R x0 0) (0 : Int32) (999 : Int32)) (fun a12 σ12 => sq (up σ12 (R (R x1 2) (σ x1 11).toNatClampNeg) 4 a12) (fun σ13 => bd (f_X10_takeNumber N R σ13 (R x0 0) (0 : Int32) (999 : Int32)) (fun a15 σ15 => sq (up σ15 (R (R x1 2) (σ x1 11).toNatClampNeg) 5 a15) (fun σ16 => bd (f_X10_takeNumber N R σ16 (R x0 0) (1 : Int32) (500 : Int32)) (fun a18 σ18 => sq (up σ18 (R (R x1 2) (σ x1 11).toNatClampNeg) 6 a18) (fun σ19 => sq (up σ19 (R (R x1 2) (σ x1 11).toNatClampNeg) 13 (0 : Int32)) (fun σ20 => sq (up σ20 (R (R x1 2) (σ x1 11).toNatClampNeg) 7 (0 : Int32)) (fun σ21 => bd (f_X5_parseCharge N R σ21 x0 (R (R x1 2) (σ x1 11).toNatClampNeg)) (fun _ σ22 => f_X5_parseBlast_119 N R N σ22 x0 x1 (R (R x1 2) (σ x1 11).toNatClampNeg) (0 : Int32))))))))))))))) else (bd (f_X10_fail N R σ (R x0 0) x2 (4 : Int32)) (fun _ σ33 => some ((), σ33)))
set_option maxHeartbeats 4000000 in
set_option maxRecDepth 100000 in
theorem w_X5_parseBlast_158 {l : Launch} {g : GL} {p : Program} {e : Jvm.Env} {s : State} {m : MethodId} {args : Array Value} {below : List Frame} {meth : Method} {c : Code} {R : Nat → Nat → Nat} {L : Nat → Nat → Int64} {r : (Unit × SI)} {N : Nat} (C : Cx l g p s m meth c cX5_parseBlast 6 RX5) (hr : meth.sig.returnType = none) (hSh : ShR R) : ∀ (σ : SI) (x1 : Nat), f_X5_parseBlast_158 N R σ x1 = some r → Ok 202 x1 9 → ∀ (H : Heap) (locs : List Loc) (ls : Array Slot), S2 g s σ R L H locs → lv_has ls 6 [(1, .ref (ga g x1))] → W p l e (rmd 7 0 0) s m args below meth c H locs 0 0 (MQ below (Qg g 202 (PV R L r)) args s 0 0 (gA g)) (F0 m 158 ls []) := by
  have hx := C.1
  have hb := C.2.1
  intro σ x1 h hx1 H locs ls S hl
  rw [f_X5_parseBlast_158] at h
  refine lv_aload_n hx hb dX5_parseBlast_158 rfl (lv_at hl 0 rfl) ?_
  refine lv_dup hx hb dX5_parseBlast_159 rfl ?_
  refine x_getI C S KX9 hx1 11 (by decide) rfl rfl fl_RX5_181 dX5_parseBlast_160 ?_
  refine lv_iconst (v := (1 : Int32)) hx hb dX5_parseBlast_163 (by decide) ?_
  refine lv_iadd hx hb dX5_parseBlast_164 ?_
  obtain ⟨σ24, hs24, h⟩ := sq_el h
  refine x_putI C S KX9 hx1 11 (by decide) rfl rfl rfl ⟨rfl, rfl⟩ fl_RX5_181 dX5_parseBlast_165 hs24 (fun H locs S => ?_)
  exact x_vret C S hr h dX5_parseBlast_168
set_option maxHeartbeats 4000000 in
set_option maxRecDepth 100000 in
theorem w_X5_parseBlast_119 {l : Launch} {g : GL} {p : Program} {e : Jvm.Env} {s : State} {m : MethodId} {args : Array Value} {below : List Frame} {meth : Method} {c : Code} {R : Nat → Nat → Nat} {L : Nat → Nat → Int64} {r : (Unit × SI)} {N : Nat} (C : Cx l g p s m meth c cX5_parseBlast 6 RX5) (hr : meth.sig.returnType = none) (hSh : ShR R) : ∀ (n : Nat) (σ : SI) (x0 : Nat) (x1 : Nat) (x4 : Nat) (x5 : Int32), f_X5_parseBlast_119 N R n σ x0 x1 x4 x5 = some r → Ok 202 x0 5 → Ok 202 x1 9 → Ok 202 x4 0 → ∀ (H : Heap) (locs : List Loc) (ls : Array Slot), S2 g s σ R L H locs → lv_has ls 6 [(0, .ref (ga g x0)), (1, .ref (ga g x1)), (4, .ref (ga g x4)), (5, .int x5)] → W p l e (rmd 7 0 0) s m args below meth c H locs 0 0 (MQ below (Qg g 202 (PV R L r)) args s 0 0 (gA g)) (F0 m 119 ls []) := by
  have hx := C.1
  have hb := C.2.1
  intro n
  induction n with
  | zero =>
    intro σ x0 x1 x4 x5 h
    cases (show (none : Option (Unit × SI)) = some r from h)
  | succ n ih =>
    intro σ x0 x1 x4 x5 h hx0 hx1 hx4 H locs ls S hl
    rw [f_X5_parseBlast_119] at h
    refine lv_iload hx hb dX5_parseBlast_119 (lv_at hl 3 rfl) ?_
    refine lv_bipush (v := (12 : Int32)) hx hb dX5_parseBlast_121 (by decide) ?_
    refine lv_icmp_ge (tgt := 158) hx hb dX5_parseBlast_123 (by decide) (fun c23 => ?_) (fun c23 => ?_)
    · have h := it_p c23 h
      exact w_X5_parseBlast_158 C hr hSh σ x1 h hx1 H locs ls S (lv_sub hl [1] rfl)
    · have h := it_n c23 h
      refine lv_aload_n hx hb dX5_parseBlast_126 rfl (lv_at hl 0 rfl) ?_
      have hR25 : Ok 202 (R x0 0) 10 := hSh x0 5 0 10 hx0.1 rfl
      refine x_getR C S KX5 hx0 0 (by decide) rfl rfl fl_RX5_12 hR25 dX5_parseBlast_127 ?_
      obtain ⟨a26, σ26, hc26, h⟩ := bd_el h
      refine x_callVI C S KX10 hR25 (ok_X10_failed (L := L) hc26 hSh hR25) ⟨cd_X10_failed, ni_RX10, ml_RX5_26, in_X10_failed, sl_X10_failed⟩ ⟨by decide, by decide⟩ rfl (rm_ok (by decide) (by decide)) hl.1 rfl (Nat.le_of_ble_eq_true rfl) ⟨by decide, by decide⟩ dX5_parseBlast_130 (fun H locs S => ?_)
      refine lv_if_ne (tgt := 158) hx hb dX5_parseBlast_133 (by decide) (fun c27 => ?_) (fun c27 => ?_)
      · have h := it_n c27 h
        exact w_X5_parseBlast_158 C hr hSh σ26 x1 h hx1 H locs ls S (lv_sub hl [1] rfl)
      · have h := it_p c27 h
        refine lv_aload_n hx hb dX5_parseBlast_136 rfl (lv_at hl 0 rfl) ?_
        have hR28 : Ok 202 (R x0 0) 10 := hSh x0 5 0 10 hx0.1 rfl
        refine x_getR C S KX5 hx0 0 (by decide) rfl rfl fl_RX5_12 hR28 dX5_parseBlast_137 ?_
        obtain ⟨a29, σ29, hc29, h⟩ := bd_el h
        refine x_callVI C S KX10 hR28 (ok_X10_numberFollows (L := L) hc29 hSh hR28) ⟨cd_X10_numberFollows, ni_RX10, ml_RX5_145, in_X10_numberFollows, sl_X10_numberFollows⟩ ⟨by decide, by decide⟩ rfl (rm_ok (by decide) (by decide)) hl.1 rfl (Nat.le_of_ble_eq_true rfl) ⟨by decide, by decide⟩ dX5_parseBlast_140 (fun H locs S => ?_)
        refine lv_if_eq (tgt := 158) hx hb dX5_parseBlast_143 (by decide) (fun c30 => ?_) (fun c30 => ?_)
        · have h := it_p c30 h
          exact w_X5_parseBlast_158 C hr hSh σ29 x1 h hx1 H locs ls S (lv_sub hl [1] rfl)
        · have h := it_n c30 h
          refine lv_aload_n hx hb dX5_parseBlast_146 rfl (lv_at hl 0 rfl) ?_
          refine lv_aload hx hb dX5_parseBlast_147 (lv_at hl 2 rfl) ?_
          obtain ⟨a31, σ31, hc31, h⟩ := bd_el h
          refine x_callVV C S KX5 hx0 (ok_X5_parseCharge (L := L) hc31 hSh hx0 hx4) ⟨cd_X5_parseCharge, ni_RX5, ml_RX5_205, in_X5_parseCharge, sl_X5_parseCharge⟩ ⟨by decide, by decide⟩ rfl (rm_ok (by decide) (by decide)) hl.1 rfl (Nat.le_of_ble_eq_true rfl) ⟨by decide, by decide⟩ dX5_parseBlast_149 (fun H locs S => ?_)
          refine lv_iinc (v := x5 + 1) (lv' := [(5, .int (x5 + 1)), (0, .ref (ga g x0)), (1, .ref (ga g x1)), (4, .ref (ga g x4))]) hx hb dX5_parseBlast_152 hl (k := 3) rfl rfl (by decide) rfl (fun ls hl => ?_)
          refine lv_goto (tgt := 119) hx hb dX5_parseBlast_155 (by decide) ?_
          exact ih σ31 x0 x1 x4 (x5 + 1) h hx0 hx1 hx4 H locs ls S (lv_sub hl [1, 2, 3, 0] rfl)
set_option maxHeartbeats 4000000 in
set_option maxRecDepth 100000 in
theorem ok_X5_parseBlast {l : Launch} {g : GL} {R : Nat → Nat → Nat} {L : Nat → Nat → Int64} {N : Nat} {σ : SI} {x0 : Nat} {x1 : Nat} {x2 : Int32} {r : (Unit × SI)} (h : f_X5_parseBlast N R σ x0 x1 x2 = some r) (hSh : ShR R) (hx0 : Ok 202 x0 5) (hx1 : Ok 202 x1 9) : Ct l g 7 yX5_parseBlast cX5_parseBlast 6 none 202 202 0 0 [.ref (ga g x0), .ref (ga g x1), .int x2] (mkS σ R L) (PV R L r) := by
  refine Met.ofW (cc := cX5_parseBlast) (maxL := 6) (ret := none) (by decide) rfl ?_
  intro p e s m args below meth c s₁ B hml hv
  obtain ⟨rfl, hE, hLo, hWd⟩ := hv
  have hr : meth.sig.returnType = none := B.returns
  have C : Cx l g p s m meth c cX5_parseBlast 6 RX5 := ⟨B.exec, B.bytes, hml, findClass_of_methodNamed B.named, hE, hLo, B.notSynchronized⟩
  have S : S2 g s σ R L s.heap [] := ⟨hWd, va_S.rf⟩
  have hx := C.1
  have hb := C.2.1
  have hl := lv_entry ([.ref (ga g x0), .ref (ga g x1), .int x2]) (n := 6) (Nat.le_of_ble_eq_true rfl)
  rw [lg_entry_eq]
  generalize (lg_sl ([.ref (ga g x0), .ref (ga g x1), .int x2]) ++ List.replicate (6 - (lg_sl ([.ref (ga g x0), .ref (ga g x1), .int x2])).length) Slot.unset).toArray = ls at hl ⊢
  have hl : lv_has ls 6 [(0, .ref (ga g x0)), (1, .ref (ga g x1)), (2, .int x2)] := hl
  generalize hH : s.heap = H at S ⊢
  generalize hlc : ([] : List Loc) = locs at S ⊢
  rw [f_X5_parseBlast] at h
  refine lv_aload_n hx hb dX5_parseBlast_0 rfl (lv_at hl 1 rfl) ?_
  refine x_getI C S KX9 hx1 11 (by decide) rfl rfl fl_RX5_181 dX5_parseBlast_1 ?_
  refine lv_bipush (v := (6 : Int32)) hx hb dX5_parseBlast_4 (by decide) ?_
  refine lv_icmp_lt (tgt := 19) hx hb dX5_parseBlast_6 (by decide) (fun c1 => ?_) (fun c1 => ?_)
  · have h := it_p c1 h
    refine lv_aload_n hx hb dX5_parseBlast_19 rfl (lv_at hl 1 rfl) ?_
    refine x_getI C S KX9 hx1 11 (by decide) rfl rfl fl_RX5_181 dX5_parseBlast_20 ?_
    refine lv_istore_n (lv' := [(3, .int (σ x1 11)), (0, .ref (ga g x0)), (1, .ref (ga g x1)), (2, .int x2)]) hx hb dX5_parseBlast_23 rfl hl (by decide) rfl (fun ls hl => ?_)
    refine lv_aload_n hx hb dX5_parseBlast_24 rfl (lv_at hl 2 rfl) ?_
    have hR2 : Ok 202 (R x1 2) 50006 := hSh x1 9 2 50006 hx1.1 rfl
    refine x_getR C S KX9 hx1 2 (by decide) rfl rfl fl_RX5_184 hR2 dX5_parseBlast_25 ?_
    refine lv_iload_n hx hb dX5_parseBlast_28 rfl (lv_at hl 0 rfl) ?_
    obtain ⟨hi3, h⟩ := ck_el h
    have hR4 : Ok 202 (R (R x1 2) (σ x1 11).toNatClampNeg) 0 := hSh (R x1 2) 50006 (σ x1 11).toNatClampNeg 0 hR2.1 (if_pos (vp_lt hi3))
    refine x_aald (len := 6) C S (by decide) 4 (by decide) rfl hR2 hi3 hR4 dX5_parseBlast_29 ?_
    refine lv_astore (lv' := [(4, .ref (ga g (R (R x1 2) (σ x1 11).toNatClampNeg))), (3, .int (σ x1 11)), (0, .ref (ga g x0)), (1, .ref (ga g x1)), (2, .int x2)]) hx hb dX5_parseBlast_30 hl (by decide) rfl (fun ls hl => ?_)
    refine lv_aload_n hx hb dX5_parseBlast_32 rfl (lv_at hl 3 rfl) ?_
    have hR5 : Ok 202 (R x1 5) 10006 := hSh x1 9 5 10006 hx1.1 rfl
    refine x_getR C S KX9 hx1 5 (by decide) rfl rfl fl_RX5_188 hR5 dX5_parseBlast_33 ?_
    refine lv_iload_n hx hb dX5_parseBlast_36 rfl (lv_at hl 1 rfl) ?_
    refine lv_aload_n hx hb dX5_parseBlast_37 rfl (lv_at hl 2 rfl) ?_
    have hR6 : Ok 202 (R x0 0) 10 := hSh x0 5 0 10 hx0.1 rfl
    refine x_getR C S KX5 hx0 0 (by decide) rfl rfl fl_RX5_12 hR6 dX5_parseBlast_38 ?_
    refine lv_aload_n hx hb dX5_parseBlast_41 rfl (lv_at hl 3 rfl) ?_
    have hR7 : Ok 202 (R x1 5) 10006 := hSh x1 9 5 10006 hx1.1 rfl
    refine x_getR C S KX9 hx1 5 (by decide) rfl rfl fl_RX5_188 hR7 dX5_parseBlast_42 ?_
    refine lv_iload_n hx hb dX5_parseBlast_45 rfl (lv_at hl 1 rfl) ?_
    obtain ⟨a8, σ8, hc8, h⟩ := bd_el h
    refine x_callVI C S KX10 hR6 (ok_X10_takeName (L := L) hc8 hSh (by decide) hR6 hR7) ⟨cd_X10_takeName, ni_RX10, ml_RX5_126, in_X10_takeName, sl_X10_takeName⟩ ⟨by decide, by decide⟩ rfl (rm_ok (by decide) (by decide)) hl.1 rfl (Nat.le_of_ble_eq_true rfl) ⟨by decide, by decide⟩ dX5_parseBlast_46 (fun H locs S => ?_)
    obtain ⟨hi9, h⟩ := ck_el h
    obtain ⟨σ10, hs10, h⟩ := sq_el h
    refine x_iast (len := 6) C S (by decide) hR5 hi9 dX5_parseBlast_49 hs10 (fun H locs S => ?_)
    refine lv_aload hx hb dX5_parseBlast_50 (lv_at hl 0 rfl) ?_
    refine lv_aload_n hx hb dX5_parseBlast_52 rfl (lv_at hl 2 rfl) ?_
    have hR11 : Ok 202 (R x0 0) 10 := hSh x0 5 0 10 hx0.1 rfl
    refine x_getR C S KX5 hx0 0 (by decide) rfl rfl fl_RX5_12 hR11 dX5_parseBlast_53 ?_
    refine lv_iconst (v := (0 : Int32)) hx hb dX5_parseBlast_56 (by decide) ?_
    refine lv_sipush (v := (999 : Int32)) hx hb dX5_parseBlast_57 (by decide) ?_
    obtain ⟨a12, σ12, hc12, h⟩ := bd_el h
    refine x_callVI C S KX10 hR11 (ok_X10_takeNumber (L := L) hc12 hSh hR11) ⟨cd_X10_takeNumber, ni_RX10, ml_RX5_73, in_X10_takeNumber, sl_X10_takeNumber⟩ ⟨by decide, by decide⟩ rfl (rm_ok (by decide) (by decide)) hl.1 rfl (Nat.le_of_ble_eq_true rfl) ⟨by decide, by decide⟩ dX5_parseBlast_60 (fun H locs S => ?_)
    obtain ⟨σ13, hs13, h⟩ := sq_el h
    refine x_putI C S KX0 hR4 4 (by decide) rfl rfl rfl ⟨rfl, rfl⟩ fl_RX5_191 dX5_parseBlast_63 hs13 (fun H locs S => ?_)
    refine lv_aload hx hb dX5_parseBlast_66 (lv_at hl 0 rfl) ?_
    refine lv_aload_n hx hb dX5_parseBlast_68 rfl (lv_at hl 2 rfl) ?_
    have hR14 : Ok 202 (R x0 0) 10 := hSh x0 5 0 10 hx0.1 rfl
    refine x_getR C S KX5 hx0 0 (by decide) rfl rfl fl_RX5_12 hR14 dX5_parseBlast_69 ?_
    refine lv_iconst (v := (0 : Int32)) hx hb dX5_parseBlast_72 (by decide) ?_
    refine lv_sipush (v := (999 : Int32)) hx hb dX5_parseBlast_73 (by decide) ?_
    obtain ⟨a15, σ15, hc15, h⟩ := bd_el h
    refine x_callVI C S KX10 hR14 (ok_X10_takeNumber (L := L) hc15 hSh hR14) ⟨cd_X10_takeNumber, ni_RX10, ml_RX5_73, in_X10_takeNumber, sl_X10_takeNumber⟩ ⟨by decide, by decide⟩ rfl (rm_ok (by decide) (by decide)) hl.1 rfl (Nat.le_of_ble_eq_true rfl) ⟨by decide, by decide⟩ dX5_parseBlast_76 (fun H locs S => ?_)
    obtain ⟨σ16, hs16, h⟩ := sq_el h
    refine x_putI C S KX0 hR4 5 (by decide) rfl rfl rfl ⟨rfl, rfl⟩ fl_RX5_194 dX5_parseBlast_79 hs16 (fun H locs S => ?_)
    refine lv_aload hx hb dX5_parseBlast_82 (lv_at hl 0 rfl) ?_
    refine lv_aload_n hx hb dX5_parseBlast_84 rfl (lv_at hl 2 rfl) ?_
    have hR17 : Ok 202 (R x0 0) 10 := hSh x0 5 0 10 hx0.1 rfl
    refine x_getR C S KX5 hx0 0 (by decide) rfl rfl fl_RX5_12 hR17 dX5_parseBlast_85 ?_
    refine lv_iconst (v := (1 : Int32)) hx hb dX5_parseBlast_88 (by decide) ?_
    refine lv_sipush (v := (500 : Int32)) hx hb dX5_parseBlast_89 (by decide) ?_
    obtain ⟨a18, σ18, hc18, h⟩ := bd_el h
    refine x_callVI C S KX10 hR17 (ok_X10_takeNumber (L := L) hc18 hSh hR17) ⟨cd_X10_takeNumber, ni_RX10, ml_RX5_73, in_X10_takeNumber, sl_X10_takeNumber⟩ ⟨by decide, by decide⟩ rfl (rm_ok (by decide) (by decide)) hl.1 rfl (Nat.le_of_ble_eq_true rfl) ⟨by decide, by decide⟩ dX5_parseBlast_92 (fun H locs S => ?_)
    obtain ⟨σ19, hs19, h⟩ := sq_el h
    refine x_putI C S KX0 hR4 6 (by decide) rfl rfl rfl ⟨rfl, rfl⟩ fl_RX5_195 dX5_parseBlast_95 hs19 (fun H locs S => ?_)
    refine lv_aload hx hb dX5_parseBlast_98 (lv_at hl 0 rfl) ?_
    refine lv_iconst (v := (0 : Int32)) hx hb dX5_parseBlast_100 (by decide) ?_
    obtain ⟨σ20, hs20, h⟩ := sq_el h
    refine x_putI C S KX0 hR4 13 (by decide) rfl rfl rfl ⟨rfl, rfl⟩ fl_RX5_198 dX5_parseBlast_101 hs20 (fun H locs S => ?_)
    refine lv_aload hx hb dX5_parseBlast_104 (lv_at hl 0 rfl) ?_
    refine lv_iconst (v := (0 : Int32)) hx hb dX5_parseBlast_106 (by decide) ?_
    obtain ⟨σ21, hs21, h⟩ := sq_el h
    refine x_putI C S KX0 hR4 7 (by decide) rfl rfl rfl ⟨rfl, rfl⟩ fl_RX5_202 dX5_parseBlast_107 hs21 (fun H locs S => ?_)
    refine lv_aload_n hx hb dX5_parseBlast_110 rfl (lv_at hl 2 rfl) ?_
    refine lv_aload hx hb dX5_parseBlast_111 (lv_at hl 0 rfl) ?_
    obtain ⟨a22, σ22, hc22, h⟩ := bd_el h
    refine x_callVV C S KX5 hx0 (ok_X5_parseCharge (L := L) hc22 hSh hx0 hR4) ⟨cd_X5_parseCharge, ni_RX5, ml_RX5_205, in_X5_parseCharge, sl_X5_parseCharge⟩ ⟨by decide, by decide⟩ rfl (rm_ok (by decide) (by decide)) hl.1 rfl (Nat.le_of_ble_eq_true rfl) ⟨by decide, by decide⟩ dX5_parseBlast_113 (fun H locs S => ?_)
    refine lv_iconst (v := (0 : Int32)) hx hb dX5_parseBlast_116 (by decide) ?_
    refine lv_istore (lv' := [(5, .int (0 : Int32)), (4, .ref (ga g (R (R x1 2) (σ x1 11).toNatClampNeg))), (3, .int (σ x1 11)), (0, .ref (ga g x0)), (1, .ref (ga g x1)), (2, .int x2)]) hx hb dX5_parseBlast_117 hl (by decide) rfl (fun ls hl => ?_)
    exact w_X5_parseBlast_119 C hr hSh N σ22 x0 x1 (R (R x1 2) (σ x1 11).toNatClampNeg) (0 : Int32) h hx0 hx1 hR4 H locs ls S (lv_sub hl [3, 4, 1, 0] rfl)
  · have h := it_n c1 h
    refine lv_aload_n hx hb dX5_parseBlast_9 rfl (lv_at hl 0 rfl) ?_
    have hR32 : Ok 202 (R x0 0) 10 := hSh x0 5 0 10 hx0.1 rfl
    refine x_getR C S KX5 hx0 0 (by decide) rfl rfl fl_RX5_12 hR32 dX5_parseBlast_10 ?_
    refine lv_iload_n hx hb dX5_parseBlast_13 rfl (lv_at hl 2 rfl) ?_
    refine lv_iconst (v := (4 : Int32)) hx hb dX5_parseBlast_14 (by decide) ?_
    obtain ⟨a33, σ33, hc33, h⟩ := bd_el h
    refine x_callVV C S KX10 hR32 (ok_X10_fail (L := L) hc33 hSh hR32) ⟨cd_X10_fail, ni_RX10, ml_RX5_115, in_X10_fail, sl_X10_fail⟩ ⟨by decide, by decide⟩ rfl (rm_ok (by decide) (by decide)) hl.1 rfl (Nat.le_of_ble_eq_true rfl) ⟨by decide, by decide⟩ dX5_parseBlast_15 (fun H locs S => ?_)
    exact x_vret C S hr h dX5_parseBlast_18
theorem dX5_parseLine_0 : decode cX5_parseLine 0 = .ok (.aload_n 0, 1) := by decide +kernel
theorem dX5_parseLine_1 : decode cX5_parseLine 1 = .ok (.getfield 12, 3) := by decide +kernel
theorem dX5_parseLine_4 : decode cX5_parseLine 4 = .ok (.getfield 44, 3) := by decide +kernel
theorem dX5_parseLine_7 : decode cX5_parseLine 7 = .ok (.istore_n 2, 1) := by decide +kernel
theorem dX5_parseLine_8 : decode cX5_parseLine 8 = .ok (.aload_n 0, 1) := by decide +kernel
theorem dX5_parseLine_9 : decode cX5_parseLine 9 = .ok (.getfield 12, 3) := by decide +kernel
theorem dX5_parseLine_12 : decode cX5_parseLine 12 = .ok (.ldc 48, 2) := by decide +kernel
theorem dX5_parseLine_14 : decode cX5_parseLine 14 = .ok (.invokevirtual 50, 3) := by decide +kernel
theorem dX5_parseLine_17 : decode cX5_parseLine 17 = .ok (.ifCond .eq 12, 3) := by decide +kernel
theorem dX5_parseLine_20 : decode cX5_parseLine 20 = .ok (.aload_n 0, 1) := by decide +kernel
theorem dX5_parseLine_21 : decode cX5_parseLine 21 = .ok (.aload_n 1, 1) := by decide +kernel
theorem dX5_parseLine_22 : decode cX5_parseLine 22 = .ok (.iload_n 2, 1) := by decide +kernel
theorem dX5_parseLine_23 : decode cX5_parseLine 23 = .ok (.invokevirtual 54, 3) := by decide +kernel
theorem dX5_parseLine_26 : decode cX5_parseLine 26 = .ok (.goto 50, 3) := by decide +kernel
theorem dX5_parseLine_29 : decode cX5_parseLine 29 = .ok (.aload_n 0, 1) := by decide +kernel
theorem dX5_parseLine_30 : decode cX5_parseLine 30 = .ok (.getfield 12, 3) := by decide +kernel
theorem dX5_parseLine_33 : decode cX5_parseLine 33 = .ok (.ldc 58, 2) := by decide +kernel
theorem dX5_parseLine_35 : decode cX5_parseLine 35 = .ok (.invokevirtual 50, 3) := by decide +kernel
theorem dX5_parseLine_38 : decode cX5_parseLine 38 = .ok (.ifCond .eq 12, 3) := by decide +kernel
theorem dX5_parseLine_41 : decode cX5_parseLine 41 = .ok (.aload_n 0, 1) := by decide +kernel
theorem dX5_parseLine_42 : decode cX5_parseLine 42 = .ok (.aload_n 1, 1) := by decide +kernel
theorem dX5_parseLine_43 : decode cX5_parseLine 43 = .ok (.iload_n 2, 1) := by decide +kernel
theorem dX5_parseLine_44 : decode cX5_parseLine 44 = .ok (.invokevirtual 60, 3) := by decide +kernel
theorem dX5_parseLine_47 : decode cX5_parseLine 47 = .ok (.goto 29, 3) := by decide +kernel
theorem dX5_parseLine_50 : decode cX5_parseLine 50 = .ok (.aload_n 0, 1) := by decide +kernel
theorem dX5_parseLine_51 : decode cX5_parseLine 51 = .ok (.getfield 12, 3) := by decide +kernel
theorem dX5_parseLine_54 : decode cX5_parseLine 54 = .ok (.ldc 63, 2) := by decide +kernel
theorem dX5_parseLine_56 : decode cX5_parseLine 56 = .ok (.invokevirtual 50, 3) := by decide +kernel
theorem dX5_parseLine_59 : decode cX5_parseLine 59 = .ok (.ifCond .eq 12, 3) := by decide +kernel
theorem dX5_parseLine_62 : decode cX5_parseLine 62 = .ok (.aload_n 0, 1) := by decide +kernel
theorem dX5_parseLine_63 : decode cX5_parseLine 63 = .ok (.aload_n 1, 1) := by decide +kernel
theorem dX5_parseLine_64 : decode cX5_parseLine 64 = .ok (.iload_n 2, 1) := by decide +kernel
theorem dX5_parseLine_65 : decode cX5_parseLine 65 = .ok (.invokevirtual 65, 3) := by decide +kernel
theorem dX5_parseLine_68 : decode cX5_parseLine 68 = .ok (.goto 8, 3) := by decide +kernel
theorem dX5_parseLine_71 : decode cX5_parseLine 71 = .ok (.aload_n 0, 1) := by decide +kernel
theorem dX5_parseLine_72 : decode cX5_parseLine 72 = .ok (.aload_n 1, 1) := by decide +kernel
theorem dX5_parseLine_73 : decode cX5_parseLine 73 = .ok (.invokevirtual 68, 3) := by decide +kernel
theorem dX5_parseLine_76 : decode cX5_parseLine 76 = .ok (.return_, 1) := by decide +kernel
def f_X5_parseLine (N : Nat) (R : Nat → Nat → Nat) (σ : SI) (x0 : Nat) (x1 : Nat) : Option (Unit × SI) := bd (f_X10_tookWord N R σ (R x0 0) 0) (fun a3 σ3 => if a3 = 0 then (bd (f_X10_tookWord N R σ3 (R x0 0) 2) (fun a6 σ6 => if a6 = 0 then (bd (f_X10_tookWord N R σ6 (R x0 0) 3) (fun a9 σ9 => if a9 = 0 then (bd (f_X5_parseSetting N R σ9 x0 x1) (fun _ σ11 => some ((), σ11))) else (bd (f_X5_parseBlast N R σ9 x0 x1 (σ (R x0 0) 2)) (fun _ σ12 => some ((), σ12))))) else (bd (f_X5_parseRoad N R σ6 x0 x1 (σ (R x0 0) 2)) (fun _ σ13 => some ((), σ13))))) else (bd (f_X5_parseNeighbour N R σ3 x0 x1 (σ (R x0 0) 2)) (fun _ σ14 => some ((), σ14))))
set_option maxHeartbeats 4000000 in
set_option maxRecDepth 100000 in
theorem ok_X5_parseLine {l : Launch} {g : GL} {R : Nat → Nat → Nat} {L : Nat → Nat → Int64} {N : Nat} {σ : SI} {x0 : Nat} {x1 : Nat} {r : (Unit × SI)} (h : f_X5_parseLine N R σ x0 x1 = some r) (hSh : ShR R) (hx0 : Ok 202 x0 5) (hx1 : Ok 202 x1 9) : Ct l g 8 yX5_parseLine cX5_parseLine 3 none 202 202 0 0 [.ref (ga g x0), .ref (ga g x1)] (mkS σ R L) (PV R L r) := by
  refine Met.ofW (cc := cX5_parseLine) (maxL := 3) (ret := none) (by decide) rfl ?_
  intro p e s m args below meth c s₁ B hml hv
  obtain ⟨rfl, hE, hLo, hWd⟩ := hv
  have hr : meth.sig.returnType = none := B.returns
  have C : Cx l g p s m meth c cX5_parseLine 3 RX5 := ⟨B.exec, B.bytes, hml, findClass_of_methodNamed B.named, hE, hLo, B.notSynchronized⟩
  have S : S2 g s σ R L s.heap [] := ⟨hWd, va_S.rf⟩
  have hx := C.1
  have hb := C.2.1
  have hl := lv_entry ([.ref (ga g x0), .ref (ga g x1)]) (n := 3) (Nat.le_of_ble_eq_true rfl)
  rw [lg_entry_eq]
  generalize (lg_sl ([.ref (ga g x0), .ref (ga g x1)]) ++ List.replicate (3 - (lg_sl ([.ref (ga g x0), .ref (ga g x1)])).length) Slot.unset).toArray = ls at hl ⊢
  have hl : lv_has ls 3 [(0, .ref (ga g x0)), (1, .ref (ga g x1))] := hl
  generalize hH : s.heap = H at S ⊢
  generalize hlc : ([] : List Loc) = locs at S ⊢
  rw [f_X5_parseLine] at h
  refine lv_aload_n hx hb dX5_parseLine_0 rfl (lv_at hl 0 rfl) ?_
  have hR1 : Ok 202 (R x0 0) 10 := hSh x0 5 0 10 hx0.1 rfl
  refine x_getR C S KX5 hx0 0 (by decide) rfl rfl fl_RX5_12 hR1 dX5_parseLine_1 ?_
  refine x_getI C S KX10 hR1 2 (by decide) rfl rfl fl_RX5_44 dX5_parseLine_4 ?_
  refine lv_istore_n (lv' := [(2, .int (σ (R x0 0) 2)), (0, .ref (ga g x0)), (1, .ref (ga g x1))]) hx hb dX5_parseLine_7 rfl hl (by decide) rfl (fun ls hl => ?_)
  refine lv_aload_n hx hb dX5_parseLine_8 rfl (lv_at hl 1 rfl) ?_
  have hR2 : Ok 202 (R x0 0) 10 := hSh x0 5 0 10 hx0.1 rfl
  refine x_getR C S KX5 hx0 0 (by decide) rfl rfl fl_RX5_12 hR2 dX5_parseLine_9 ?_
  refine x_ldcs C (k := 48) (tx := "near") (ia := 0) (by decide) dX5_parseLine_12 ?_
  obtain ⟨a3, σ3, hc3, h⟩ := bd_el h
  refine x_callVI C S KX10 hR2 (ok_X10_tookWord (L := L) hc3 hSh hR2 (by decide)) ⟨cd_X10_tookWord, ni_RX10, ml_RX5_50, in_X10_tookWord, sl_X10_tookWord⟩ ⟨by decide, by decide⟩ rfl (rm_ok (by decide) (by decide)) hl.1 rfl (Nat.le_of_ble_eq_true rfl) ⟨by decide, by decide⟩ dX5_parseLine_14 (fun H locs S => ?_)
  refine lv_if_eq (tgt := 29) hx hb dX5_parseLine_17 (by decide) (fun c4 => ?_) (fun c4 => ?_)
  · have h := it_p c4 h
    refine lv_aload_n hx hb dX5_parseLine_29 rfl (lv_at hl 1 rfl) ?_
    have hR5 : Ok 202 (R x0 0) 10 := hSh x0 5 0 10 hx0.1 rfl
    refine x_getR C S KX5 hx0 0 (by decide) rfl rfl fl_RX5_12 hR5 dX5_parseLine_30 ?_
    refine x_ldcs C (k := 58) (tx := "road") (ia := 2) (by decide) dX5_parseLine_33 ?_
    obtain ⟨a6, σ6, hc6, h⟩ := bd_el h
    refine x_callVI C S KX10 hR5 (ok_X10_tookWord (L := L) hc6 hSh hR5 (by decide)) ⟨cd_X10_tookWord, ni_RX10, ml_RX5_50, in_X10_tookWord, sl_X10_tookWord⟩ ⟨by decide, by decide⟩ rfl (rm_ok (by decide) (by decide)) hl.1 rfl (Nat.le_of_ble_eq_true rfl) ⟨by decide, by decide⟩ dX5_parseLine_35 (fun H locs S => ?_)
    refine lv_if_eq (tgt := 50) hx hb dX5_parseLine_38 (by decide) (fun c7 => ?_) (fun c7 => ?_)
    · have h := it_p c7 h
      refine lv_aload_n hx hb dX5_parseLine_50 rfl (lv_at hl 1 rfl) ?_
      have hR8 : Ok 202 (R x0 0) 10 := hSh x0 5 0 10 hx0.1 rfl
      refine x_getR C S KX5 hx0 0 (by decide) rfl rfl fl_RX5_12 hR8 dX5_parseLine_51 ?_
      refine x_ldcs C (k := 63) (tx := "blast") (ia := 3) (by decide) dX5_parseLine_54 ?_
      obtain ⟨a9, σ9, hc9, h⟩ := bd_el h
      refine x_callVI C S KX10 hR8 (ok_X10_tookWord (L := L) hc9 hSh hR8 (by decide)) ⟨cd_X10_tookWord, ni_RX10, ml_RX5_50, in_X10_tookWord, sl_X10_tookWord⟩ ⟨by decide, by decide⟩ rfl (rm_ok (by decide) (by decide)) hl.1 rfl (Nat.le_of_ble_eq_true rfl) ⟨by decide, by decide⟩ dX5_parseLine_56 (fun H locs S => ?_)
      refine lv_if_eq (tgt := 71) hx hb dX5_parseLine_59 (by decide) (fun c10 => ?_) (fun c10 => ?_)
      · have h := it_p c10 h
        refine lv_aload_n hx hb dX5_parseLine_71 rfl (lv_at hl 1 rfl) ?_
        refine lv_aload_n hx hb dX5_parseLine_72 rfl (lv_at hl 2 rfl) ?_
        obtain ⟨a11, σ11, hc11, h⟩ := bd_el h
        refine x_callVV C S KX5 hx0 (ok_X5_parseSetting (L := L) hc11 hSh hx0 hx1) ⟨cd_X5_parseSetting, ni_RX5, ml_RX5_68, in_X5_parseSetting, sl_X5_parseSetting⟩ ⟨by decide, by decide⟩ rfl (rm_ok (by decide) (by decide)) hl.1 rfl (Nat.le_of_ble_eq_true rfl) ⟨by decide, by decide⟩ dX5_parseLine_73 (fun H locs S => ?_)
        exact x_vret C S hr h dX5_parseLine_76
      · have h := it_n c10 h
        refine lv_aload_n hx hb dX5_parseLine_62 rfl (lv_at hl 1 rfl) ?_
        refine lv_aload_n hx hb dX5_parseLine_63 rfl (lv_at hl 2 rfl) ?_
        refine lv_iload_n hx hb dX5_parseLine_64 rfl (lv_at hl 0 rfl) ?_
        obtain ⟨a12, σ12, hc12, h⟩ := bd_el h
        refine x_callVV C S KX5 hx0 (ok_X5_parseBlast (L := L) hc12 hSh hx0 hx1) ⟨cd_X5_parseBlast, ni_RX5, ml_RX5_65, in_X5_parseBlast, sl_X5_parseBlast⟩ ⟨by decide, by decide⟩ rfl (rm_ok (by decide) (by decide)) hl.1 rfl (Nat.le_of_ble_eq_true rfl) ⟨by decide, by decide⟩ dX5_parseLine_65 (fun H locs S => ?_)
        refine lv_goto (tgt := 76) hx hb dX5_parseLine_68 (by decide) ?_
        exact x_vret C S hr h dX5_parseLine_76
    · have h := it_n c7 h
      refine lv_aload_n hx hb dX5_parseLine_41 rfl (lv_at hl 1 rfl) ?_
      refine lv_aload_n hx hb dX5_parseLine_42 rfl (lv_at hl 2 rfl) ?_
      refine lv_iload_n hx hb dX5_parseLine_43 rfl (lv_at hl 0 rfl) ?_
      obtain ⟨a13, σ13, hc13, h⟩ := bd_el h
      refine x_callVV C S KX5 hx0 (ok_X5_parseRoad (L := L) hc13 hSh hx0 hx1) ⟨cd_X5_parseRoad, ni_RX5, ml_RX5_60, in_X5_parseRoad, sl_X5_parseRoad⟩ ⟨by decide, by decide⟩ rfl (rm_ok (by decide) (by decide)) hl.1 rfl (Nat.le_of_ble_eq_true rfl) ⟨by decide, by decide⟩ dX5_parseLine_44 (fun H locs S => ?_)
      refine lv_goto (tgt := 76) hx hb dX5_parseLine_47 (by decide) ?_
      exact x_vret C S hr h dX5_parseLine_76
  · have h := it_n c4 h
    refine lv_aload_n hx hb dX5_parseLine_20 rfl (lv_at hl 1 rfl) ?_
    refine lv_aload_n hx hb dX5_parseLine_21 rfl (lv_at hl 2 rfl) ?_
    refine lv_iload_n hx hb dX5_parseLine_22 rfl (lv_at hl 0 rfl) ?_
    obtain ⟨a14, σ14, hc14, h⟩ := bd_el h
    refine x_callVV C S KX5 hx0 (ok_X5_parseNeighbour (L := L) hc14 hSh hx0 hx1) ⟨cd_X5_parseNeighbour, ni_RX5, ml_RX5_54, in_X5_parseNeighbour, sl_X5_parseNeighbour⟩ ⟨by decide, by decide⟩ rfl (rm_ok (by decide) (by decide)) hl.1 rfl (Nat.le_of_ble_eq_true rfl) ⟨by decide, by decide⟩ dX5_parseLine_23 (fun H locs S => ?_)
    refine lv_goto (tgt := 76) hx hb dX5_parseLine_26 (by decide) ?_
    exact x_vret C S hr h dX5_parseLine_76
theorem dX5_parse_0 : decode cX5_parse 0 = .ok (.aload_n 0, 1) := by decide +kernel
theorem dX5_parse_1 : decode cX5_parse 1 = .ok (.getfield 12, 3) := by decide +kernel
theorem dX5_parse_4 : decode cX5_parse 4 = .ok (.invokevirtual 18, 3) := by decide +kernel
theorem dX5_parse_7 : decode cX5_parse 7 = .ok (.aload_n 1, 1) := by decide +kernel
theorem dX5_parse_8 : decode cX5_parse 8 = .ok (.invokevirtual 21, 3) := by decide +kernel
theorem dX5_parse_11 : decode cX5_parse 11 = .ok (.iconst 0, 1) := by decide +kernel
theorem dX5_parse_12 : decode cX5_parse 12 = .ok (.istore_n 2, 1) := by decide +kernel
theorem dX5_parse_13 : decode cX5_parse 13 = .ok (.iload_n 2, 1) := by decide +kernel
theorem dX5_parse_14 : decode cX5_parse 14 = .ok (.sipush 800, 3) := by decide +kernel
theorem dX5_parse_17 : decode cX5_parse 17 = .ok (.if_icmp .gt 48, 3) := by decide +kernel
theorem dX5_parse_20 : decode cX5_parse 20 = .ok (.aload_n 0, 1) := by decide +kernel
theorem dX5_parse_21 : decode cX5_parse 21 = .ok (.getfield 12, 3) := by decide +kernel
theorem dX5_parse_24 : decode cX5_parse 24 = .ok (.invokevirtual 26, 3) := by decide +kernel
theorem dX5_parse_27 : decode cX5_parse 27 = .ok (.ifCond .ne 38, 3) := by decide +kernel
theorem dX5_parse_30 : decode cX5_parse 30 = .ok (.aload_n 0, 1) := by decide +kernel
theorem dX5_parse_31 : decode cX5_parse 31 = .ok (.getfield 12, 3) := by decide +kernel
theorem dX5_parse_34 : decode cX5_parse 34 = .ok (.invokevirtual 30, 3) := by decide +kernel
theorem dX5_parse_37 : decode cX5_parse 37 = .ok (.ifCond .ne 28, 3) := by decide +kernel
theorem dX5_parse_40 : decode cX5_parse 40 = .ok (.aload_n 0, 1) := by decide +kernel
theorem dX5_parse_41 : decode cX5_parse 41 = .ok (.aload_n 1, 1) := by decide +kernel
theorem dX5_parse_42 : decode cX5_parse 42 = .ok (.invokevirtual 33, 3) := by decide +kernel
theorem dX5_parse_45 : decode cX5_parse 45 = .ok (.aload_n 0, 1) := by decide +kernel
theorem dX5_parse_46 : decode cX5_parse 46 = .ok (.getfield 12, 3) := by decide +kernel
theorem dX5_parse_49 : decode cX5_parse 49 = .ok (.aload_n 0, 1) := by decide +kernel
theorem dX5_parse_50 : decode cX5_parse 50 = .ok (.getfield 12, 3) := by decide +kernel
theorem dX5_parse_53 : decode cX5_parse 53 = .ok (.invokevirtual 37, 3) := by decide +kernel
theorem dX5_parse_56 : decode cX5_parse 56 = .ok (.invokevirtual 40, 3) := by decide +kernel
theorem dX5_parse_59 : decode cX5_parse 59 = .ok (.iinc 2 1, 3) := by decide +kernel
theorem dX5_parse_62 : decode cX5_parse 62 = .ok (.goto (-49), 3) := by decide +kernel
theorem dX5_parse_65 : decode cX5_parse 65 = .ok (.aload_n 0, 1) := by decide +kernel
theorem dX5_parse_66 : decode cX5_parse 66 = .ok (.getfield 12, 3) := by decide +kernel
theorem dX5_parse_69 : decode cX5_parse 69 = .ok (.invokevirtual 26, 3) := by decide +kernel
theorem dX5_parse_72 : decode cX5_parse 72 = .ok (.ifCond .ne 7, 3) := by decide +kernel
theorem dX5_parse_75 : decode cX5_parse 75 = .ok (.iconst 1, 1) := by decide +kernel
theorem dX5_parse_76 : decode cX5_parse 76 = .ok (.goto 4, 3) := by decide +kernel
theorem dX5_parse_79 : decode cX5_parse 79 = .ok (.iconst 0, 1) := by decide +kernel
theorem dX5_parse_80 : decode cX5_parse 80 = .ok (.ireturn, 1) := by decide +kernel
def f_X5_parse_65 (N : Nat) (R : Nat → Nat → Nat) (σ : SI) (x0 : Nat) : Option (Int32 × SI) := bd (f_X10_failed N R σ (R x0 0)) (fun a6 σ6 => if a6 = 0 then (some ((1 : Int32), σ6)) else (some ((0 : Int32), σ6)))
def f_X5_parse_13 (N : Nat) (R : Nat → Nat → Nat) : Nat → SI → Nat → Nat → Int32 → Option (Int32 × SI)
  | 0, _, _, _, _ => none
  | n + 1, σ, x0, x1, x2 => if (800 : Int32) < x2 then (f_X5_parse_65 N R σ x0) else (bd (f_X10_failed N R σ (R x0 0)) (fun a9 σ9 => if a9 = 0 then (bd (f_X10_atEnd N R σ9 (R x0 0)) (fun a12 σ12 => if a12 = 0 then (bd (f_X5_parseLine N R σ12 x0 x1) (fun _ σ14 => bd (f_X10_tookSemicolon N R σ14 (R x0 0)) (fun a17 σ17 => bd (f_X10_need N R σ17 (R x0 0) a17) (fun _ σ18 => f_X5_parse_13 N R n σ18 x0 x1 (x2 + 1))))) else (f_X5_parse_65 N R σ12 x0))) else (f_X5_parse_65 N R σ9 x0)))
def f_X5_parse (N : Nat) (R : Nat → Nat → Nat) (σ : SI) (x0 : Nat) (x1 : Nat) : Option (Int32 × SI) := bd (f_X10_begin N R σ (R x0 0)) (fun _ σ2 => bd (f_X9_reset N R σ2 x1) (fun _ σ3 => f_X5_parse_13 N R N σ3 x0 x1 (0 : Int32)))
set_option maxHeartbeats 4000000 in
set_option maxRecDepth 100000 in
theorem w_X5_parse_65 {l : Launch} {g : GL} {p : Program} {e : Jvm.Env} {s : State} {m : MethodId} {args : Array Value} {below : List Frame} {meth : Method} {c : Code} {R : Nat → Nat → Nat} {L : Nat → Nat → Int64} {r : (Int32 × SI)} {N : Nat} (C : Cx l g p s m meth c cX5_parse 3 RX5) (hr : meth.sig.returnType = (some .boolean)) (hSh : ShR R) : ∀ (σ : SI) (x0 : Nat), f_X5_parse_65 N R σ x0 = some r → Ok 202 x0 5 → ∀ (H : Heap) (locs : List Loc) (ls : Array Slot), S2 g s σ R L H locs → lv_has ls 3 [(0, .ref (ga g x0))] → W p l e (rmd 9 0 0) s m args below meth c H locs 0 0 (MQ below (Qg g 202 (PI R L r)) args s 0 0 (gA g)) (F0 m 65 ls []) := by
  have hx := C.1
  have hb := C.2.1
  intro σ x0 h hx0 H locs ls S hl
  rw [f_X5_parse_65] at h
  refine lv_aload_n hx hb dX5_parse_65 rfl (lv_at hl 0 rfl) ?_
  have hR5 : Ok 202 (R x0 0) 10 := hSh x0 5 0 10 hx0.1 rfl
  refine x_getR C S KX5 hx0 0 (by decide) rfl rfl fl_RX5_12 hR5 dX5_parse_66 ?_
  obtain ⟨a6, σ6, hc6, h⟩ := bd_el h
  refine x_callVI C S KX10 hR5 (ok_X10_failed (L := L) hc6 hSh hR5) ⟨cd_X10_failed, ni_RX10, ml_RX5_26, in_X10_failed, sl_X10_failed⟩ ⟨by decide, by decide⟩ rfl (rm_ok (by decide) (by decide)) hl.1 rfl (Nat.le_of_ble_eq_true rfl) ⟨by decide, by decide⟩ dX5_parse_69 (fun H locs S => ?_)
  refine lv_if_ne (tgt := 79) hx hb dX5_parse_72 (by decide) (fun c7 => ?_) (fun c7 => ?_)
  · have h := it_n c7 h
    refine lv_iconst (v := (0 : Int32)) hx hb dX5_parse_79 (by decide) ?_
    exact x_zret C S hr (by decide) h dX5_parse_80
  · have h := it_p c7 h
    refine lv_iconst (v := (1 : Int32)) hx hb dX5_parse_75 (by decide) ?_
    refine lv_goto (tgt := 80) hx hb dX5_parse_76 (by decide) ?_
    exact x_zret C S hr (by decide) h dX5_parse_80
set_option maxHeartbeats 4000000 in
set_option maxRecDepth 100000 in
theorem w_X5_parse_13 {l : Launch} {g : GL} {p : Program} {e : Jvm.Env} {s : State} {m : MethodId} {args : Array Value} {below : List Frame} {meth : Method} {c : Code} {R : Nat → Nat → Nat} {L : Nat → Nat → Int64} {r : (Int32 × SI)} {N : Nat} (C : Cx l g p s m meth c cX5_parse 3 RX5) (hr : meth.sig.returnType = (some .boolean)) (hSh : ShR R) : ∀ (n : Nat) (σ : SI) (x0 : Nat) (x1 : Nat) (x2 : Int32), f_X5_parse_13 N R n σ x0 x1 x2 = some r → Ok 202 x0 5 → Ok 202 x1 9 → ∀ (H : Heap) (locs : List Loc) (ls : Array Slot), S2 g s σ R L H locs → lv_has ls 3 [(0, .ref (ga g x0)), (1, .ref (ga g x1)), (2, .int x2)] → W p l e (rmd 9 0 0) s m args below meth c H locs 0 0 (MQ below (Qg g 202 (PI R L r)) args s 0 0 (gA g)) (F0 m 13 ls []) := by
  have hx := C.1
  have hb := C.2.1
  intro n
  induction n with
  | zero =>
    intro σ x0 x1 x2 h
    cases (show (none : Option (Int32 × SI)) = some r from h)
  | succ n ih =>
    intro σ x0 x1 x2 h hx0 hx1 H locs ls S hl
    rw [f_X5_parse_13] at h
    refine lv_iload_n hx hb dX5_parse_13 rfl (lv_at hl 2 rfl) ?_
    refine lv_sipush (v := (800 : Int32)) hx hb dX5_parse_14 (by decide) ?_
    refine lv_icmp_gt (tgt := 65) hx hb dX5_parse_17 (by decide) (fun c4 => ?_) (fun c4 => ?_)
    · have h := it_p c4 h
      exact w_X5_parse_65 C hr hSh σ x0 h hx0 H locs ls S (lv_sub hl [0] rfl)
    · have h := it_n c4 h
      refine lv_aload_n hx hb dX5_parse_20 rfl (lv_at hl 0 rfl) ?_
      have hR8 : Ok 202 (R x0 0) 10 := hSh x0 5 0 10 hx0.1 rfl
      refine x_getR C S KX5 hx0 0 (by decide) rfl rfl fl_RX5_12 hR8 dX5_parse_21 ?_
      obtain ⟨a9, σ9, hc9, h⟩ := bd_el h
      refine x_callVI C S KX10 hR8 (ok_X10_failed (L := L) hc9 hSh hR8) ⟨cd_X10_failed, ni_RX10, ml_RX5_26, in_X10_failed, sl_X10_failed⟩ ⟨by decide, by decide⟩ rfl (rm_ok (by decide) (by decide)) hl.1 rfl (Nat.le_of_ble_eq_true rfl) ⟨by decide, by decide⟩ dX5_parse_24 (fun H locs S => ?_)
      refine lv_if_ne (tgt := 65) hx hb dX5_parse_27 (by decide) (fun c10 => ?_) (fun c10 => ?_)
      · have h := it_n c10 h
        exact w_X5_parse_65 C hr hSh σ9 x0 h hx0 H locs ls S (lv_sub hl [0] rfl)
      · have h := it_p c10 h
        refine lv_aload_n hx hb dX5_parse_30 rfl (lv_at hl 0 rfl) ?_
        have hR11 : Ok 202 (R x0 0) 10 := hSh x0 5 0 10 hx0.1 rfl
        refine x_getR C S KX5 hx0 0 (by decide) rfl rfl fl_RX5_12 hR11 dX5_parse_31 ?_
        obtain ⟨a12, σ12, hc12, h⟩ := bd_el h
        refine x_callVI C S KX10 hR11 (ok_X10_atEnd (L := L) hc12 hSh hR11) ⟨cd_X10_atEnd, ni_RX10, ml_RX5_30, in_X10_atEnd, sl_X10_atEnd⟩ ⟨by decide, by decide⟩ rfl (rm_ok (by decide) (by decide)) hl.1 rfl (Nat.le_of_ble_eq_true rfl) ⟨by decide, by decide⟩ dX5_parse_34 (fun H locs S => ?_)
        refine lv_if_ne (tgt := 65) hx hb dX5_parse_37 (by decide) (fun c13 => ?_) (fun c13 => ?_)
        · have h := it_n c13 h
          exact w_X5_parse_65 C hr hSh σ12 x0 h hx0 H locs ls S (lv_sub hl [0] rfl)
        · have h := it_p c13 h
          refine lv_aload_n hx hb dX5_parse_40 rfl (lv_at hl 0 rfl) ?_
          refine lv_aload_n hx hb dX5_parse_41 rfl (lv_at hl 1 rfl) ?_
          obtain ⟨a14, σ14, hc14, h⟩ := bd_el h
          refine x_callVV C S KX5 hx0 (ok_X5_parseLine (L := L) hc14 hSh hx0 hx1) ⟨cd_X5_parseLine, ni_RX5, ml_RX5_33, in_X5_parseLine, sl_X5_parseLine⟩ ⟨by decide, by decide⟩ rfl (rm_ok (by decide) (by decide)) hl.1 rfl (Nat.le_of_ble_eq_true rfl) ⟨by decide, by decide⟩ dX5_parse_42 (fun H locs S => ?_)
          refine lv_aload_n hx hb dX5_parse_45 rfl (lv_at hl 0 rfl) ?_
          have hR15 : Ok 202 (R x0 0) 10 := hSh x0 5 0 10 hx0.1 rfl
          refine x_getR C S KX5 hx0 0 (by decide) rfl rfl fl_RX5_12 hR15 dX5_parse_46 ?_
          refine lv_aload_n hx hb dX5_parse_49 rfl (lv_at hl 0 rfl) ?_
          have hR16 : Ok 202 (R x0 0) 10 := hSh x0 5 0 10 hx0.1 rfl
          refine x_getR C S KX5 hx0 0 (by decide) rfl rfl fl_RX5_12 hR16 dX5_parse_50 ?_
          obtain ⟨a17, σ17, hc17, h⟩ := bd_el h
          refine x_callVI C S KX10 hR16 (ok_X10_tookSemicolon (L := L) hc17 hSh hR16) ⟨cd_X10_tookSemicolon, ni_RX10, ml_RX5_37, in_X10_tookSemicolon, sl_X10_tookSemicolon⟩ ⟨by decide, by decide⟩ rfl (rm_ok (by decide) (by decide)) hl.1 rfl (Nat.le_of_ble_eq_true rfl) ⟨by decide, by decide⟩ dX5_parse_53 (fun H locs S => ?_)
          obtain ⟨a18, σ18, hc18, h⟩ := bd_el h
          refine x_callVV C S KX10 hR15 (ok_X10_need (L := L) hc18 hSh hR15) ⟨cd_X10_need, ni_RX10, ml_RX5_40, in_X10_need, sl_X10_need⟩ ⟨by decide, by decide⟩ rfl (rm_ok (by decide) (by decide)) hl.1 rfl (Nat.le_of_ble_eq_true rfl) ⟨by decide, by decide⟩ dX5_parse_56 (fun H locs S => ?_)
          refine lv_iinc (v := x2 + 1) (lv' := [(2, .int (x2 + 1)), (0, .ref (ga g x0)), (1, .ref (ga g x1))]) hx hb dX5_parse_59 hl (k := 2) rfl rfl (by decide) rfl (fun ls hl => ?_)
          refine lv_goto (tgt := 13) hx hb dX5_parse_62 (by decide) ?_
          exact ih σ18 x0 x1 (x2 + 1) h hx0 hx1 H locs ls S (lv_sub hl [1, 2, 0] rfl)
set_option maxHeartbeats 4000000 in
set_option maxRecDepth 100000 in
theorem ok_X5_parse {l : Launch} {g : GL} {R : Nat → Nat → Nat} {L : Nat → Nat → Int64} {N : Nat} {σ : SI} {x0 : Nat} {x1 : Nat} {r : (Int32 × SI)} (h : f_X5_parse N R σ x0 x1 = some r) (hSh : ShR R) (hx0 : Ok 202 x0 5) (hx1 : Ok 202 x1 9) : Ct l g 9 yX5_parse cX5_parse 3 (some .boolean) 202 202 0 0 [.ref (ga g x0), .ref (ga g x1)] (mkS σ R L) (PI R L r) := by
  refine Met.ofW (cc := cX5_parse) (maxL := 3) (ret := (some .boolean)) (by decide) rfl ?_
  intro p e s m args below meth c s₁ B hml hv
  obtain ⟨rfl, hE, hLo, hWd⟩ := hv
  have hr : meth.sig.returnType = (some .boolean) := B.returns
  have C : Cx l g p s m meth c cX5_parse 3 RX5 := ⟨B.exec, B.bytes, hml, findClass_of_methodNamed B.named, hE, hLo, B.notSynchronized⟩
  have S : S2 g s σ R L s.heap [] := ⟨hWd, va_S.rf⟩
  have hx := C.1
  have hb := C.2.1
  have hl := lv_entry ([.ref (ga g x0), .ref (ga g x1)]) (n := 3) (Nat.le_of_ble_eq_true rfl)
  rw [lg_entry_eq]
  generalize (lg_sl ([.ref (ga g x0), .ref (ga g x1)]) ++ List.replicate (3 - (lg_sl ([.ref (ga g x0), .ref (ga g x1)])).length) Slot.unset).toArray = ls at hl ⊢
  have hl : lv_has ls 3 [(0, .ref (ga g x0)), (1, .ref (ga g x1))] := hl
  generalize hH : s.heap = H at S ⊢
  generalize hlc : ([] : List Loc) = locs at S ⊢
  rw [f_X5_parse] at h
  refine lv_aload_n hx hb dX5_parse_0 rfl (lv_at hl 0 rfl) ?_
  have hR1 : Ok 202 (R x0 0) 10 := hSh x0 5 0 10 hx0.1 rfl
  refine x_getR C S KX5 hx0 0 (by decide) rfl rfl fl_RX5_12 hR1 dX5_parse_1 ?_
  obtain ⟨a2, σ2, hc2, h⟩ := bd_el h
  refine x_callVV C S KX10 hR1 (ok_X10_begin (L := L) hc2 hSh hR1) ⟨cd_X10_begin, ni_RX10, ml_RX5_18, in_X10_begin, sl_X10_begin⟩ ⟨by decide, by decide⟩ rfl (rm_ok (by decide) (by decide)) hl.1 rfl (Nat.le_of_ble_eq_true rfl) ⟨by decide, by decide⟩ dX5_parse_4 (fun H locs S => ?_)
  refine lv_aload_n hx hb dX5_parse_7 rfl (lv_at hl 1 rfl) ?_
  obtain ⟨a3, σ3, hc3, h⟩ := bd_el h
  refine x_callVV C S KX9 hx1 (ok_X9_reset (L := L) hc3 hSh hx1) ⟨cd_X9_reset, ni_RX9, ml_RX5_21, in_X9_reset, sl_X9_reset⟩ ⟨by decide, by decide⟩ rfl (rm_ok (by decide) (by decide)) hl.1 rfl (Nat.le_of_ble_eq_true rfl) ⟨by decide, by decide⟩ dX5_parse_8 (fun H locs S => ?_)
  refine lv_iconst (v := (0 : Int32)) hx hb dX5_parse_11 (by decide) ?_
  refine lv_istore_n (lv' := [(2, .int (0 : Int32)), (0, .ref (ga g x0)), (1, .ref (ga g x1))]) hx hb dX5_parse_12 rfl hl (by decide) rfl (fun ls hl => ?_)
  exact w_X5_parse_13 C hr hSh N σ3 x0 x1 (0 : Int32) h hx0 hx1 H locs ls S (lv_sub hl [1, 2, 0] rfl)
