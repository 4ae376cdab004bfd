theorem dX9_closedTotal_0 : decode cX9_closedTotal 0 = .ok (.iconst 0, 1) := by decide +kernel
theorem dX9_closedTotal_1 : decode cX9_closedTotal 1 = .ok (.istore_n 2, 1) := by decide +kernel
theorem dX9_closedTotal_2 : decode cX9_closedTotal 2 = .ok (.iconst 0, 1) := by decide +kernel
theorem dX9_closedTotal_3 : decode cX9_closedTotal 3 = .ok (.istore_n 3, 1) := by decide +kernel
theorem dX9_closedTotal_4 : decode cX9_closedTotal 4 = .ok (.iload_n 3, 1) := by decide +kernel
theorem dX9_closedTotal_5 : decode cX9_closedTotal 5 = .ok (.aload_n 0, 1) := by decide +kernel
theorem dX9_closedTotal_6 : decode cX9_closedTotal 6 = .ok (.getfield 58, 3) := by decide +kernel
theorem dX9_closedTotal_9 : decode cX9_closedTotal 9 = .ok (.if_icmp .ge 22, 3) := by decide +kernel
theorem dX9_closedTotal_12 : decode cX9_closedTotal 12 = .ok (.aload_n 0, 1) := by decide +kernel
theorem dX9_closedTotal_13 : decode cX9_closedTotal 13 = .ok (.iload_n 3, 1) := by decide +kernel
theorem dX9_closedTotal_14 : decode cX9_closedTotal 14 = .ok (.aload_n 1, 1) := by decide +kernel
theorem dX9_closedTotal_15 : decode cX9_closedTotal 15 = .ok (.invokevirtual 191, 3) := by decide +kernel
theorem dX9_closedTotal_18 : decode cX9_closedTotal 18 = .ok (.iload_n 2, 1) := by decide +kernel
theorem dX9_closedTotal_19 : decode cX9_closedTotal 19 = .ok (.aload_n 1, 1) := by decide +kernel
theorem dX9_closedTotal_20 : decode cX9_closedTotal 20 = .ok (.invokevirtual 195, 3) := by decide +kernel
theorem dX9_closedTotal_23 : decode cX9_closedTotal 23 = .ok (.iadd, 1) := by decide +kernel
theorem dX9_closedTotal_24 : decode cX9_closedTotal 24 = .ok (.istore_n 2, 1) := by decide +kernel
theorem dX9_closedTotal_25 : decode cX9_closedTotal 25 = .ok (.iinc 3 1, 3) := by decide +kernel
theorem dX9_closedTotal_28 : decode cX9_closedTotal 28 = .ok (.goto (-24), 3) := by decide +kernel
theorem dX9_closedTotal_31 : decode cX9_closedTotal 31 = .ok (.iload_n 2, 1) := by decide +kernel
theorem dX9_closedTotal_32 : decode cX9_closedTotal 32 = .ok (.ireturn, 1) := by decide +kernel
def f_X9_closedTotal_4 (N : Nat) (R : Nat → Nat → Nat) : Nat → SI → Nat → Nat → Int32 → Int32 → Option (Int32 × SI)
  | 0, _, _, _, _, _ => none
  | n + 1, σ, x0, x1, x2, x3 => if (σ x0 10) ≤ x3 then (some (x2, σ)) else (bd (f_X9_collectClosed N R σ x0 x3 x1) (fun _ σ2 => bd (f_X3_size N R σ2 x1) (fun a3 σ3 => f_X9_closedTotal_4 N R n σ3 x0 x1 (x2 + a3) (x3 + 1))))
def f_X9_closedTotal (N : Nat) (R : Nat → Nat → Nat) (σ : SI) (x0 : Nat) (x1 : Nat) : Option (Int32 × SI) := f_X9_closedTotal_4 N R N σ x0 x1 (0 : Int32) (0 : Int32)
set_option maxHeartbeats 4000000 in
set_option maxRecDepth 100000 in
theorem w_X9_closedTotal_4 {l : Launch} {g : GL} {p : Program} {e : Jvm.Env} {s : State} {m : MethodId} {args : Array Value} {below : List Frame} {meth : Method} {c : Code} {R : Nat → Nat → Nat} {L : Nat → Nat → Int64} {r : (Int32 × SI)} {N : Nat} (C : Cx l g p s m meth c cX9_closedTotal 4 RX9) (hr : meth.sig.returnType = (some .int)) (hSh : ShR R) : ∀ (n : Nat) (σ : SI) (x0 : Nat) (x1 : Nat) (x2 : Int32) (x3 : Int32), f_X9_closedTotal_4 N R n σ x0 x1 x2 x3 = some r → Ok 194 x0 9 → Ok 194 x1 3 → ∀ (H : Heap) (locs : List Loc) (ls : Array Slot), S2 g s σ R L H locs → lv_has ls 4 [(0, .ref (gb g + x0)), (1, .ref (gb g + x1)), (2, .int x2), (3, .int x3)] → W p l e (rmd 4 0 0) s m args below meth c H locs 0 0 (MQ below (Qg g 194 (PI R L r)) args s 0 0 (gA g)) (F0 m 4 ls []) := by
  have hx := C.1
  have hb := C.2.1
  intro n
  induction n with
  | zero =>
    intro σ x0 x1 x2 x3 h
    cases (show (none : Option (Int32 × SI)) = some r from h)
  | succ n ih =>
    intro σ x0 x1 x2 x3 h hx0 hx1 H locs ls S hl
    rw [f_X9_closedTotal_4] at h
    refine lv_iload_n hx hb dX9_closedTotal_4 rfl (lv_at hl 3 rfl) ?_
    refine lv_aload_n hx hb dX9_closedTotal_5 rfl (lv_at hl 0 rfl) ?_
    refine x_getI C S KX9 hx0 10 (by decide) rfl rfl fl_RX9_58 dX9_closedTotal_6 ?_
    refine lv_icmp_ge (tgt := 31) hx hb dX9_closedTotal_9 (by decide) (fun c1 => ?_) (fun c1 => ?_)
    · have h := it_p c1 h
      refine lv_iload_n hx hb dX9_closedTotal_31 rfl (lv_at hl 2 rfl) ?_
      exact x_iret C S hr h dX9_closedTotal_32
    · have h := it_n c1 h
      refine lv_aload_n hx hb dX9_closedTotal_12 rfl (lv_at hl 0 rfl) ?_
      refine lv_iload_n hx hb dX9_closedTotal_13 rfl (lv_at hl 3 rfl) ?_
      refine lv_aload_n hx hb dX9_closedTotal_14 rfl (lv_at hl 1 rfl) ?_
      obtain ⟨a2, σ2, hc2, h⟩ := bd_el h
      refine x_callVV C S KX9 hx0 (ok_X9_collectClosed (L := L) hc2 hSh hx0 hx1) ⟨cd_X9_collectClosed, ni_RX9, ml_RX9_191, in_X9_collectClosed, sl_X9_collectClosed⟩ ⟨by decide, by decide⟩ rfl ⟨by decide, by decide⟩ hl.1 rfl (Nat.le_of_ble_eq_true rfl) ⟨by decide, by decide⟩ dX9_closedTotal_15 (fun H locs S => ?_)
      refine lv_iload_n hx hb dX9_closedTotal_18 rfl (lv_at hl 2 rfl) ?_
      refine lv_aload_n hx hb dX9_closedTotal_19 rfl (lv_at hl 1 rfl) ?_
      obtain ⟨a3, σ3, hc3, h⟩ := bd_el h
      refine x_callVI C S KX3 hx1 (ok_X3_size (L := L) hc3 hSh hx1) ⟨cd_X3_size, ni_RX3, ml_RX9_195, in_X3_size, sl_X3_size⟩ ⟨by decide, by decide⟩ rfl ⟨by decide, by decide⟩ hl.1 rfl (Nat.le_of_ble_eq_true rfl) ⟨by decide, by decide⟩ dX9_closedTotal_20 (fun H locs S => ?_)
      refine lv_iadd hx hb dX9_closedTotal_23 ?_
      refine lv_istore_n (lv' := [(2, .int (x2 + a3)), (0, .ref (gb g + x0)), (1, .ref (gb g + x1)), (3, .int x3)]) hx hb dX9_closedTotal_24 rfl hl (by decide) rfl (fun ls hl => ?_)
      refine lv_iinc (v := x3 + 1) (lv' := [(3, .int (x3 + 1)), (2, .int (x2 + a3)), (0, .ref (gb g + x0)), (1, .ref (gb g + x1))]) hx hb dX9_closedTotal_25 hl (k := 3) rfl rfl (by decide) rfl (fun ls hl => ?_)
      refine lv_goto (tgt := 4) hx hb dX9_closedTotal_28 (by decide) ?_
      exact ih σ3 x0 x1 (x2 + a3) (x3 + 1) h hx0 hx1 H locs ls S (lv_sub hl [2, 3, 1, 0] rfl)
set_option maxHeartbeats 4000000 in
set_option maxRecDepth 100000 in
theorem ok_X9_closedTotal {l : Launch} {g : GL} {R : Nat → Nat → Nat} {L : Nat → Nat → Int64} {N : Nat} {σ : SI} {x0 : Nat} {x1 : Nat} {r : (Int32 × SI)} (h : f_X9_closedTotal N R σ x0 x1 = some r) (hSh : ShR R) (hx0 : Ok 194 x0 9) (hx1 : Ok 194 x1 3) : Ct l g 4 yX9_closedTotal cX9_closedTotal 4 (some .int) 194 194 0 0 [.ref (gb g + x0), .ref (gb g + x1)] (mkS σ R L) (PI R L r) := by
  refine Met.ofW (cc := cX9_closedTotal) (maxL := 4) (ret := (some .int)) (by decide) rfl ?_
  intro p e s m args below meth c s₁ B hml hv
  obtain ⟨rfl, hE, hLo, hWd⟩ := hv
  have hr : meth.sig.returnType = (some .int) := B.returns
  have C : Cx l g p s m meth c cX9_closedTotal 4 RX9 := ⟨B.exec, B.bytes, hml, findClass_of_methodNamed B.named, hE, hLo, B.notSynchronized⟩
  have S : S2 g s σ R L s.heap [] := ⟨hWd, va_S.rf⟩
  have hx := C.1
  have hb := C.2.1
  have hl := lv_entry ([.ref (gb g + x0), .ref (gb g + x1)]) (n := 4) (Nat.le_of_ble_eq_true rfl)
  rw [lg_entry_eq]
  generalize (lg_sl ([.ref (gb g + x0), .ref (gb g + x1)]) ++ List.replicate (4 - (lg_sl ([.ref (gb g + x0), .ref (gb g + x1)])).length) Slot.unset).toArray = ls at hl ⊢
  have hl : lv_has ls 4 [(0, .ref (gb g + x0)), (1, .ref (gb g + x1))] := hl
  generalize hH : s.heap = H at S ⊢
  generalize hlc : ([] : List Loc) = locs at S ⊢
  rw [f_X9_closedTotal] at h
  refine lv_iconst (v := (0 : Int32)) hx hb dX9_closedTotal_0 (by decide) ?_
  refine lv_istore_n (lv' := [(2, .int (0 : Int32)), (0, .ref (gb g + x0)), (1, .ref (gb g + x1))]) hx hb dX9_closedTotal_1 rfl hl (by decide) rfl (fun ls hl => ?_)
  refine lv_iconst (v := (0 : Int32)) hx hb dX9_closedTotal_2 (by decide) ?_
  refine lv_istore_n (lv' := [(3, .int (0 : Int32)), (2, .int (0 : Int32)), (0, .ref (gb g + x0)), (1, .ref (gb g + x1))]) hx hb dX9_closedTotal_3 rfl hl (by decide) rfl (fun ls hl => ?_)
  exact w_X9_closedTotal_4 C hr hSh N σ x0 x1 (0 : Int32) (0 : Int32) h hx0 hx1 H locs ls S (lv_sub hl [2, 3, 1, 0] rfl)
theorem dX10_takeName_0 : decode cX10_takeName 0 = .ok (.aload_n 0, 1) := by decide +kernel
theorem dX10_takeName_1 : decode cX10_takeName 1 = .ok (.invokevirtual 28, 3) := by decide +kernel
theorem dX10_takeName_4 : decode cX10_takeName 4 = .ok (.aload_n 0, 1) := by decide +kernel
theorem dX10_takeName_5 : decode cX10_takeName 5 = .ok (.bipush 97, 2) := by decide +kernel
theorem dX10_takeName_7 : decode cX10_takeName 7 = .ok (.bipush 122, 2) := by decide +kernel
theorem dX10_takeName_9 : decode cX10_takeName 9 = .ok (.invokevirtual 31, 3) := by decide +kernel
theorem dX10_takeName_12 : decode cX10_takeName 12 = .ok (.istore_n 3, 1) := by decide +kernel
theorem dX10_takeName_13 : decode cX10_takeName 13 = .ok (.iload_n 3, 1) := by decide +kernel
theorem dX10_takeName_14 : decode cX10_takeName 14 = .ok (.aload_n 0, 1) := by decide +kernel
theorem dX10_takeName_15 : decode cX10_takeName 15 = .ok (.getfield 22, 3) := by decide +kernel
theorem dX10_takeName_18 : decode cX10_takeName 18 = .ok (.if_icmp .eq 14, 3) := by decide +kernel
theorem dX10_takeName_21 : decode cX10_takeName 21 = .ok (.iload_n 3, 1) := by decide +kernel
theorem dX10_takeName_22 : decode cX10_takeName 22 = .ok (.aload_n 0, 1) := by decide +kernel
theorem dX10_takeName_23 : decode cX10_takeName 23 = .ok (.getfield 22, 3) := by decide +kernel
theorem dX10_takeName_26 : decode cX10_takeName 26 = .ok (.isub, 1) := by decide +kernel
theorem dX10_takeName_27 : decode cX10_takeName 27 = .ok (.bipush 6, 2) := by decide +kernel
theorem dX10_takeName_29 : decode cX10_takeName 29 = .ok (.if_icmp .le 14, 3) := by decide +kernel
theorem dX10_takeName_32 : decode cX10_takeName 32 = .ok (.aload_n 0, 1) := by decide +kernel
theorem dX10_takeName_33 : decode cX10_takeName 33 = .ok (.aload_n 0, 1) := by decide +kernel
theorem dX10_takeName_34 : decode cX10_takeName 34 = .ok (.getfield 22, 3) := by decide +kernel
theorem dX10_takeName_37 : decode cX10_takeName 37 = .ok (.iconst 1, 1) := by decide +kernel
theorem dX10_takeName_38 : decode cX10_takeName 38 = .ok (.invokevirtual 35, 3) := by decide +kernel
theorem dX10_takeName_41 : decode cX10_takeName 41 = .ok (.iconst (-1), 1) := by decide +kernel
theorem dX10_takeName_42 : decode cX10_takeName 42 = .ok (.ireturn, 1) := by decide +kernel
theorem dX10_takeName_43 : decode cX10_takeName 43 = .ok (.aload_n 0, 1) := by decide +kernel
theorem dX10_takeName_44 : decode cX10_takeName 44 = .ok (.iload_n 3, 1) := by decide +kernel
theorem dX10_takeName_45 : decode cX10_takeName 45 = .ok (.invokevirtual 48, 3) := by decide +kernel
theorem dX10_takeName_48 : decode cX10_takeName 48 = .ok (.istore 4, 2) := by decide +kernel
theorem dX10_takeName_50 : decode cX10_takeName 50 = .ok (.iconst 0, 1) := by decide +kernel
theorem dX10_takeName_51 : decode cX10_takeName 51 = .ok (.istore 5, 2) := by decide +kernel
theorem dX10_takeName_53 : decode cX10_takeName 53 = .ok (.iload 5, 2) := by decide +kernel
theorem dX10_takeName_55 : decode cX10_takeName 55 = .ok (.iload_n 2, 1) := by decide +kernel
theorem dX10_takeName_56 : decode cX10_takeName 56 = .ok (.if_icmp .ge 29, 3) := by decide +kernel
theorem dX10_takeName_59 : decode cX10_takeName 59 = .ok (.aload_n 1, 1) := by decide +kernel
theorem dX10_takeName_60 : decode cX10_takeName 60 = .ok (.iload 5, 2) := by decide +kernel
theorem dX10_takeName_62 : decode cX10_takeName 62 = .ok (.iaload, 1) := by decide +kernel
theorem dX10_takeName_63 : decode cX10_takeName 63 = .ok (.iload 4, 2) := by decide +kernel
theorem dX10_takeName_65 : decode cX10_takeName 65 = .ok (.if_icmp .ne 14, 3) := by decide +kernel
theorem dX10_takeName_68 : decode cX10_takeName 68 = .ok (.aload_n 0, 1) := by decide +kernel
theorem dX10_takeName_69 : decode cX10_takeName 69 = .ok (.aload_n 0, 1) := by decide +kernel
theorem dX10_takeName_70 : decode cX10_takeName 70 = .ok (.getfield 22, 3) := by decide +kernel
theorem dX10_takeName_73 : decode cX10_takeName 73 = .ok (.iconst 3, 1) := by decide +kernel
theorem dX10_takeName_74 : decode cX10_takeName 74 = .ok (.invokevirtual 35, 3) := by decide +kernel
theorem dX10_takeName_77 : decode cX10_takeName 77 = .ok (.iconst (-1), 1) := by decide +kernel
theorem dX10_takeName_78 : decode cX10_takeName 78 = .ok (.ireturn, 1) := by decide +kernel
theorem dX10_takeName_79 : decode cX10_takeName 79 = .ok (.iinc 5 1, 3) := by decide +kernel
theorem dX10_takeName_82 : decode cX10_takeName 82 = .ok (.goto (-29), 3) := by decide +kernel
theorem dX10_takeName_85 : decode cX10_takeName 85 = .ok (.aload_n 0, 1) := by decide +kernel
theorem dX10_takeName_86 : decode cX10_takeName 86 = .ok (.iload_n 3, 1) := by decide +kernel
theorem dX10_takeName_87 : decode cX10_takeName 87 = .ok (.putfield 22, 3) := by decide +kernel
theorem dX10_takeName_90 : decode cX10_takeName 90 = .ok (.iload 4, 2) := by decide +kernel
theorem dX10_takeName_92 : decode cX10_takeName 92 = .ok (.ireturn, 1) := by decide +kernel
def f_X10_takeName_32 (N : Nat) (R : Nat → Nat → Nat) (q1 : Nat) (σ : SI) (x0 : Nat) : Option (Int32 × SI) := bd (f_X10_fail N R σ x0 (σ x0 2) (1 : Int32)) (fun _ σ4 => some ((-1 : Int32), σ4))
def f_X10_takeName_53 (N : Nat) (R : Nat → Nat → Nat) (q1 : Nat) : Nat → SI → Nat → Nat → Int32 → Int32 → Int32 → Int32 → Option (Int32 × SI)
  | 0, _, _, _, _, _, _, _ => none
  | n + 1, σ, x0, x1, x2, x3, x4, x5 => if x2 ≤ x5 then (sq (up σ x0 2 x3) (fun σ8 => some (x4, σ8))) else (ck x5 q1 (if (σ x1 x5.toNatClampNeg) = x4 then (bd (f_X10_fail N R σ x0 (σ x0 2) (3 : Int32)) (fun _ σ11 => some ((-1 : Int32), σ11))) else (f_X10_takeName_53 N R q1 n σ x0 x1 x2 x3 x4 (x5 + 1))))
def f_X10_takeName (N : Nat) (R : Nat → Nat → Nat) (q1 : Nat) (σ : SI) (x0 : Nat) (x1 : Nat) (x2 : Int32) : Option (Int32 × SI) := bd (f_X10_skipSpaces N R σ x0) (fun _ σ1 => bd (f_X10_endOfRun N R σ1 x0 (97 : Int32) (122 : Int32)) (fun a2 σ2 => if a2 = (σ2 x0 2) then (f_X10_takeName_32 N R q1 σ2 x0) else (if (a2 - (σ2 x0 2)) ≤ (6 : Int32) then (bd (f_X10_nameUpTo N R σ2 x0 a2) (fun a6 σ6 => f_X10_takeName_53 N R q1 N σ6 x0 x1 x2 a2 a6 (0 : Int32))) else (f_X10_takeName_32 N R q1 σ2 x0))))
set_option maxHeartbeats 4000000 in
set_option maxRecDepth 100000 in
theorem w_X10_takeName_32 {l : Launch} {g : GL} {p : Program} {e : Jvm.Env} {s : State} {m : MethodId} {args : Array Value} {below : List Frame} {meth : Method} {c : Code} {q1 : Nat} {R : Nat → Nat → Nat} {L : Nat → Nat → Int64} {r : (Int32 × SI)} {N : Nat} (C : Cx l g p s m meth c cX10_takeName 6 RX10) (hr : meth.sig.returnType = (some .int)) (hSh : ShR R) (hq1 : q1 < 10000) : ∀ (σ : SI) (x0 : Nat), f_X10_takeName_32 N R q1 σ x0 = some r → Ok 194 x0 10 → ∀ (H : Heap) (locs : List Loc) (ls : Array Slot), S2 g s σ R L H locs → lv_has ls 6 [(0, .ref (gb g + x0))] → W p l e (rmd 2 0 0) s m args below meth c H locs 0 0 (MQ below (Qg g 194 (PI R L r)) args s 0 0 (gA g)) (F0 m 32 ls []) := by
  have hx := C.1
  have hb := C.2.1
  intro σ x0 h hx0 H locs ls S hl
  rw [f_X10_takeName_32] at h
  refine lv_aload_n hx hb dX10_takeName_32 rfl (lv_at hl 0 rfl) ?_
  refine lv_aload_n hx hb dX10_takeName_33 rfl (lv_at hl 0 rfl) ?_
  refine x_getI C S KX10 hx0 2 (by decide) rfl rfl fl_RX10_22 dX10_takeName_34 ?_
  refine lv_iconst (v := (1 : Int32)) hx hb dX10_takeName_37 (by decide) ?_
  obtain ⟨a4, σ4, hc4, h⟩ := bd_el h
  refine x_callVV C S KX10 hx0 (ok_X10_fail (L := L) hc4 hSh hx0) ⟨cd_X10_fail, ni_RX10, ml_RX10_35, in_X10_fail, sl_X10_fail⟩ ⟨by decide, by decide⟩ rfl ⟨by decide, by decide⟩ hl.1 rfl (Nat.le_of_ble_eq_true rfl) ⟨by decide, by decide⟩ dX10_takeName_38 (fun H locs S => ?_)
  refine lv_iconst (v := (-1 : Int32)) hx hb dX10_takeName_41 (by decide) ?_
  exact x_iret C S hr h dX10_takeName_42
set_option maxHeartbeats 4000000 in
set_option maxRecDepth 100000 in
theorem w_X10_takeName_53 {l : Launch} {g : GL} {p : Program} {e : Jvm.Env} {s : State} {m : MethodId} {args : Array Value} {below : List Frame} {meth : Method} {c : Code} {q1 : Nat} {R : Nat → Nat → Nat} {L : Nat → Nat → Int64} {r : (Int32 × SI)} {N : Nat} (C : Cx l g p s m meth c cX10_takeName 6 RX10) (hr : meth.sig.returnType = (some .int)) (hSh : ShR R) (hq1 : q1 < 10000) : ∀ (n : Nat) (σ : SI) (x0 : Nat) (x1 : Nat) (x2 : Int32) (x3 : Int32) (x4 : Int32) (x5 : Int32), f_X10_takeName_53 N R q1 n σ x0 x1 x2 x3 x4 x5 = some r → Ok 194 x0 10 → Ok 194 x1 (10000 + q1) → ∀ (H : Heap) (locs : List Loc) (ls : Array Slot), S2 g s σ R L H locs → lv_has ls 6 [(0, .ref (gb g + x0)), (1, .ref (gb g + x1)), (2, .int x2), (3, .int x3), (4, .int x4), (5, .int x5)] → W p l e (rmd 2 0 0) s m args below meth c H locs 0 0 (MQ below (Qg g 194 (PI R L r)) args s 0 0 (gA g)) (F0 m 53 ls []) := by
  have hx := C.1
  have hb := C.2.1
  intro n
  induction n with
  | zero =>
    intro σ x0 x1 x2 x3 x4 x5 h
    cases (show (none : Option (Int32 × SI)) = some r from h)
  | succ n ih =>
    intro σ x0 x1 x2 x3 x4 x5 h hx0 hx1 H locs ls S hl
    rw [f_X10_takeName_53] at h
    refine lv_iload hx hb dX10_takeName_53 (lv_at hl 5 rfl) ?_
    refine lv_iload_n hx hb dX10_takeName_55 rfl (lv_at hl 2 rfl) ?_
    refine lv_icmp_ge (tgt := 85) hx hb dX10_takeName_56 (by decide) (fun c7 => ?_) (fun c7 => ?_)
    · have h := it_p c7 h
      refine lv_aload_n hx hb dX10_takeName_85 rfl (lv_at hl 0 rfl) ?_
      refine lv_iload_n hx hb dX10_takeName_86 rfl (lv_at hl 3 rfl) ?_
      obtain ⟨σ8, hs8, h⟩ := sq_el h
      refine x_putI C S KX10 hx0 2 (by decide) rfl rfl rfl ⟨rfl, rfl⟩ fl_RX10_22 dX10_takeName_87 hs8 (fun H locs S => ?_)
      refine lv_iload hx hb dX10_takeName_90 (lv_at hl 4 rfl) ?_
      exact x_iret C S hr h dX10_takeName_92
    · have h := it_n c7 h
      refine lv_aload_n hx hb dX10_takeName_59 rfl (lv_at hl 1 rfl) ?_
      refine lv_iload hx hb dX10_takeName_60 (lv_at hl 5 rfl) ?_
      obtain ⟨hi9, h⟩ := ck_el h
      refine x_iald (len := q1) C S hq1 hx1 hi9 dX10_takeName_62 ?_
      refine lv_iload hx hb dX10_takeName_63 (lv_at hl 4 rfl) ?_
      refine lv_icmp_ne (tgt := 79) hx hb dX10_takeName_65 (by decide) (fun c10 => ?_) (fun c10 => ?_)
      · have h := it_n c10 h
        refine lv_iinc (v := x5 + 1) (lv' := [(5, .int (x5 + 1)), (0, .ref (gb g + x0)), (1, .ref (gb g + x1)), (2, .int x2), (3, .int x3), (4, .int x4)]) hx hb dX10_takeName_79 hl (k := 5) rfl rfl (by decide) rfl (fun ls hl => ?_)
        refine lv_goto (tgt := 53) hx hb dX10_takeName_82 (by decide) ?_
        exact ih σ x0 x1 x2 x3 x4 (x5 + 1) h hx0 hx1 H locs ls S (lv_sub hl [1, 2, 3, 4, 5, 0] rfl)
      · have h := it_p c10 h
        refine lv_aload_n hx hb dX10_takeName_68 rfl (lv_at hl 0 rfl) ?_
        refine lv_aload_n hx hb dX10_takeName_69 rfl (lv_at hl 0 rfl) ?_
        refine x_getI C S KX10 hx0 2 (by decide) rfl rfl fl_RX10_22 dX10_takeName_70 ?_
        refine lv_iconst (v := (3 : Int32)) hx hb dX10_takeName_73 (by decide) ?_
        obtain ⟨a11, σ11, hc11, h⟩ := bd_el h
        refine x_callVV C S KX10 hx0 (ok_X10_fail (L := L) hc11 hSh hx0) ⟨cd_X10_fail, ni_RX10, ml_RX10_35, in_X10_fail, sl_X10_fail⟩ ⟨by decide, by decide⟩ rfl ⟨by decide, by decide⟩ hl.1 rfl (Nat.le_of_ble_eq_true rfl) ⟨by decide, by decide⟩ dX10_takeName_74 (fun H locs S => ?_)
        refine lv_iconst (v := (-1 : Int32)) hx hb dX10_takeName_77 (by decide) ?_
        exact x_iret C S hr h dX10_takeName_78
set_option maxHeartbeats 4000000 in
set_option maxRecDepth 100000 in
theorem ok_X10_takeName {l : Launch} {g : GL} {q1 : Nat} {R : Nat → Nat → Nat} {L : Nat → Nat → Int64} {N : Nat} {σ : SI} {x0 : Nat} {x1 : Nat} {x2 : Int32} {r : (Int32 × SI)} (h : f_X10_takeName N R q1 σ x0 x1 x2 = some r) (hSh : ShR R) (hq1 : q1 < 10000) (hx0 : Ok 194 x0 10) (hx1 : Ok 194 x1 (10000 + q1)) : Ct l g 2 yX10_takeName cX10_takeName 6 (some .int) 194 194 0 0 [.ref (gb g + x0), .ref (gb g + x1), .int x2] (mkS σ R L) (PI R L r) := by
  refine Met.ofW (cc := cX10_takeName) (maxL := 6) (ret := (some .int)) (by decide) rfl ?_
  intro p e s m args below meth c s₁ B hml hv
  obtain ⟨rfl, hE, hLo, hWd⟩ := hv
  have hr : meth.sig.returnType = (some .int) := B.returns
  have C : Cx l g p s m meth c cX10_takeName 6 RX10 := ⟨B.exec, B.bytes, hml, findClass_of_methodNamed B.named, hE, hLo, B.notSynchronized⟩
  have S : S2 g s σ R L s.heap [] := ⟨hWd, va_S.rf⟩
  have hx := C.1
  have hb := C.2.1
  have hl := lv_entry ([.ref (gb g + x0), .ref (gb g + x1), .int x2]) (n := 6) (Nat.le_of_ble_eq_true rfl)
  rw [lg_entry_eq]
  generalize (lg_sl ([.ref (gb g + x0), .ref (gb g + x1), .int x2]) ++ List.replicate (6 - (lg_sl ([.ref (gb g + x0), .ref (gb g + x1), .int x2])).length) Slot.unset).toArray = ls at hl ⊢
  have hl : lv_has ls 6 [(0, .ref (gb g + x0)), (1, .ref (gb g + x1)), (2, .int x2)] := hl
  generalize hH : s.heap = H at S ⊢
  generalize hlc : ([] : List Loc) = locs at S ⊢
  rw [f_X10_takeName] at h
  refine lv_aload_n hx hb dX10_takeName_0 rfl (lv_at hl 0 rfl) ?_
  obtain ⟨a1, σ1, hc1, h⟩ := bd_el h
  refine x_callVV C S KX10 hx0 (ok_X10_skipSpaces (L := L) hc1 hSh hx0) ⟨cd_X10_skipSpaces, ni_RX10, ml_RX10_28, in_X10_skipSpaces, sl_X10_skipSpaces⟩ ⟨by decide, by decide⟩ rfl ⟨by decide, by decide⟩ hl.1 rfl (Nat.le_of_ble_eq_true rfl) ⟨by decide, by decide⟩ dX10_takeName_1 (fun H locs S => ?_)
  refine lv_aload_n hx hb dX10_takeName_4 rfl (lv_at hl 0 rfl) ?_
  refine lv_bipush (v := (97 : Int32)) hx hb dX10_takeName_5 (by decide) ?_
  refine lv_bipush (v := (122 : Int32)) hx hb dX10_takeName_7 (by decide) ?_
  obtain ⟨a2, σ2, hc2, h⟩ := bd_el h
  refine x_callVI C S KX10 hx0 (ok_X10_endOfRun (L := L) hc2 hSh hx0) ⟨cd_X10_endOfRun, ni_RX10, ml_RX10_31, in_X10_endOfRun, sl_X10_endOfRun⟩ ⟨by decide, by decide⟩ rfl ⟨by decide, by decide⟩ hl.1 rfl (Nat.le_of_ble_eq_true rfl) ⟨by decide, by decide⟩ dX10_takeName_9 (fun H locs S => ?_)
  refine lv_istore_n (lv' := [(3, .int a2), (0, .ref (gb g + x0)), (1, .ref (gb g + x1)), (2, .int x2)]) hx hb dX10_takeName_12 rfl hl (by decide) rfl (fun ls hl => ?_)
  refine lv_iload_n hx hb dX10_takeName_13 rfl (lv_at hl 0 rfl) ?_
  refine lv_aload_n hx hb dX10_takeName_14 rfl (lv_at hl 1 rfl) ?_
  refine x_getI C S KX10 hx0 2 (by decide) rfl rfl fl_RX10_22 dX10_takeName_15 ?_
  refine lv_icmp_eq (tgt := 32) hx hb dX10_takeName_18 (by decide) (fun c3 => ?_) (fun c3 => ?_)
  · have h := it_p c3 h
    exact w_X10_takeName_32 C hr hSh hq1 σ2 x0 h hx0 H locs ls S (lv_sub hl [1] rfl)
  · have h := it_n c3 h
    refine lv_iload_n hx hb dX10_takeName_21 rfl (lv_at hl 0 rfl) ?_
    refine lv_aload_n hx hb dX10_takeName_22 rfl (lv_at hl 1 rfl) ?_
    refine x_getI C S KX10 hx0 2 (by decide) rfl rfl fl_RX10_22 dX10_takeName_23 ?_
    refine lv_isub hx hb dX10_takeName_26 ?_
    refine lv_bipush (v := (6 : Int32)) hx hb dX10_takeName_27 (by decide) ?_
    refine lv_icmp_le (tgt := 43) hx hb dX10_takeName_29 (by decide) (fun c5 => ?_) (fun c5 => ?_)
    · have h := it_p c5 h
      refine lv_aload_n hx hb dX10_takeName_43 rfl (lv_at hl 1 rfl) ?_
      refine lv_iload_n hx hb dX10_takeName_44 rfl (lv_at hl 0 rfl) ?_
      obtain ⟨a6, σ6, hc6, h⟩ := bd_el h
      refine x_callVI C S KX10 hx0 (ok_X10_nameUpTo (L := L) hc6 hSh hx0) ⟨cd_X10_nameUpTo, ni_RX10, ml_RX10_48, in_X10_nameUpTo, sl_X10_nameUpTo⟩ ⟨by decide, by decide⟩ rfl ⟨by decide, by decide⟩ hl.1 rfl (Nat.le_of_ble_eq_true rfl) ⟨by decide, by decide⟩ dX10_takeName_45 (fun H locs S => ?_)
      refine lv_istore (lv' := [(4, .int a6), (3, .int a2), (0, .ref (gb g + x0)), (1, .ref (gb g + x1)), (2, .int x2)]) hx hb dX10_takeName_48 hl (by decide) rfl (fun ls hl => ?_)
      refine lv_iconst (v := (0 : Int32)) hx hb dX10_takeName_50 (by decide) ?_
      refine lv_istore (lv' := [(5, .int (0 : Int32)), (4, .int a6), (3, .int a2), (0, .ref (gb g + x0)), (1, .ref (gb g + x1)), (2, .int x2)]) hx hb dX10_takeName_51 hl (by decide) rfl (fun ls hl => ?_)
      exact w_X10_takeName_53 C hr hSh hq1 N σ6 x0 x1 x2 a2 a6 (0 : Int32) h hx0 hx1 H locs ls S (lv_sub hl [3, 4, 5, 2, 1, 0] rfl)
    · have h := it_n c5 h
      exact w_X10_takeName_32 C hr hSh hq1 σ2 x0 h hx0 H locs ls S (lv_sub hl [1] rfl)
theorem dX10_takeNumber_0 : decode cX10_takeNumber 0 = .ok (.aload_n 0, 1) := by decide +kernel
theorem dX10_takeNumber_1 : decode cX10_takeNumber 1 = .ok (.invokevirtual 52, 3) := by decide +kernel
theorem dX10_takeNumber_4 : decode cX10_takeNumber 4 = .ok (.ifCond .eq 5, 3) := by decide +kernel
theorem dX10_takeNumber_7 : decode cX10_takeNumber 7 = .ok (.iconst (-1), 1) := by decide +kernel
theorem dX10_takeNumber_8 : decode cX10_takeNumber 8 = .ok (.ireturn, 1) := by decide +kernel
theorem dX10_takeNumber_9 : decode cX10_takeNumber 9 = .ok (.aload_n 0, 1) := by decide +kernel
theorem dX10_takeNumber_10 : decode cX10_takeNumber 10 = .ok (.invokevirtual 28, 3) := by decide +kernel
theorem dX10_takeNumber_13 : decode cX10_takeNumber 13 = .ok (.aload_n 0, 1) := by decide +kernel
theorem dX10_takeNumber_14 : decode cX10_takeNumber 14 = .ok (.bipush 48, 2) := by decide +kernel
theorem dX10_takeNumber_16 : decode cX10_takeNumber 16 = .ok (.bipush 57, 2) := by decide +kernel
theorem dX10_takeNumber_18 : decode cX10_takeNumber 18 = .ok (.invokevirtual 31, 3) := by decide +kernel
theorem dX10_takeNumber_21 : decode cX10_takeNumber 21 = .ok (.istore_n 3, 1) := by decide +kernel
theorem dX10_takeNumber_22 : decode cX10_takeNumber 22 = .ok (.iload_n 3, 1) := by decide +kernel
theorem dX10_takeNumber_23 : decode cX10_takeNumber 23 = .ok (.aload_n 0, 1) := by decide +kernel
theorem dX10_takeNumber_24 : decode cX10_takeNumber 24 = .ok (.getfield 22, 3) := by decide +kernel
theorem dX10_takeNumber_27 : decode cX10_takeNumber 27 = .ok (.if_icmp .ne 14, 3) := by decide +kernel
theorem dX10_takeNumber_30 : decode cX10_takeNumber 30 = .ok (.aload_n 0, 1) := by decide +kernel
theorem dX10_takeNumber_31 : decode cX10_takeNumber 31 = .ok (.aload_n 0, 1) := by decide +kernel
theorem dX10_takeNumber_32 : decode cX10_takeNumber 32 = .ok (.getfield 22, 3) := by decide +kernel
theorem dX10_takeNumber_35 : decode cX10_takeNumber 35 = .ok (.iconst 1, 1) := by decide +kernel
theorem dX10_takeNumber_36 : decode cX10_takeNumber 36 = .ok (.invokevirtual 35, 3) := by decide +kernel
theorem dX10_takeNumber_39 : decode cX10_takeNumber 39 = .ok (.iconst (-1), 1) := by decide +kernel
theorem dX10_takeNumber_40 : decode cX10_takeNumber 40 = .ok (.ireturn, 1) := by decide +kernel
theorem dX10_takeNumber_41 : decode cX10_takeNumber 41 = .ok (.iload_n 3, 1) := by decide +kernel
theorem dX10_takeNumber_42 : decode cX10_takeNumber 42 = .ok (.aload_n 0, 1) := by decide +kernel
theorem dX10_takeNumber_43 : decode cX10_takeNumber 43 = .ok (.getfield 22, 3) := by decide +kernel
theorem dX10_takeNumber_46 : decode cX10_takeNumber 46 = .ok (.isub, 1) := by decide +kernel
theorem dX10_takeNumber_47 : decode cX10_takeNumber 47 = .ok (.iconst 5, 1) := by decide +kernel
theorem dX10_takeNumber_48 : decode cX10_takeNumber 48 = .ok (.if_icmp .le 7, 3) := by decide +kernel
theorem dX10_takeNumber_51 : decode cX10_takeNumber 51 = .ok (.iconst (-1), 1) := by decide +kernel
theorem dX10_takeNumber_52 : decode cX10_takeNumber 52 = .ok (.goto 8, 3) := by decide +kernel
theorem dX10_takeNumber_55 : decode cX10_takeNumber 55 = .ok (.aload_n 0, 1) := by decide +kernel
theorem dX10_takeNumber_56 : decode cX10_takeNumber 56 = .ok (.iload_n 3, 1) := by decide +kernel
theorem dX10_takeNumber_57 : decode cX10_takeNumber 57 = .ok (.invokevirtual 56, 3) := by decide +kernel
theorem dX10_takeNumber_60 : decode cX10_takeNumber 60 = .ok (.istore 4, 2) := by decide +kernel
theorem dX10_takeNumber_62 : decode cX10_takeNumber 62 = .ok (.iload 4, 2) := by decide +kernel
theorem dX10_takeNumber_64 : decode cX10_takeNumber 64 = .ok (.iload_n 1, 1) := by decide +kernel
theorem dX10_takeNumber_65 : decode cX10_takeNumber 65 = .ok (.if_icmp .lt 9, 3) := by decide +kernel
theorem dX10_takeNumber_68 : decode cX10_takeNumber 68 = .ok (.iload 4, 2) := by decide +kernel
theorem dX10_takeNumber_70 : decode cX10_takeNumber 70 = .ok (.iload_n 2, 1) := by decide +kernel
theorem dX10_takeNumber_71 : decode cX10_takeNumber 71 = .ok (.if_icmp .le 14, 3) := by decide +kernel
theorem dX10_takeNumber_74 : decode cX10_takeNumber 74 = .ok (.aload_n 0, 1) := by decide +kernel
theorem dX10_takeNumber_75 : decode cX10_takeNumber 75 = .ok (.aload_n 0, 1) := by decide +kernel
theorem dX10_takeNumber_76 : decode cX10_takeNumber 76 = .ok (.getfield 22, 3) := by decide +kernel
theorem dX10_takeNumber_79 : decode cX10_takeNumber 79 = .ok (.iconst 2, 1) := by decide +kernel
theorem dX10_takeNumber_80 : decode cX10_takeNumber 80 = .ok (.invokevirtual 35, 3) := by decide +kernel
theorem dX10_takeNumber_83 : decode cX10_takeNumber 83 = .ok (.iconst (-1), 1) := by decide +kernel
theorem dX10_takeNumber_84 : decode cX10_takeNumber 84 = .ok (.ireturn, 1) := by decide +kernel
theorem dX10_takeNumber_85 : decode cX10_takeNumber 85 = .ok (.aload_n 0, 1) := by decide +kernel
theorem dX10_takeNumber_86 : decode cX10_takeNumber 86 = .ok (.iload_n 3, 1) := by decide +kernel
theorem dX10_takeNumber_87 : decode cX10_takeNumber 87 = .ok (.putfield 22, 3) := by decide +kernel
theorem dX10_takeNumber_90 : decode cX10_takeNumber 90 = .ok (.iload 4, 2) := by decide +kernel
theorem dX10_takeNumber_92 : decode cX10_takeNumber 92 = .ok (.ireturn, 1) := by decide +kernel
def f_X10_takeNumber_74 (N : Nat) (R : Nat → Nat → Nat) (σ : SI) (x0 : Nat) : Option (Int32 × SI) := bd (f_X10_fail N R σ x0 (σ x0 2) (2 : Int32)) (fun _ σ9 => some ((-1 : Int32), σ9))
def f_X10_takeNumber (N : Nat) (R : Nat → Nat → Nat) (σ : SI) (x0 : Nat) (x1 : Int32) (x2 : Int32) : Option (Int32 × SI) := bd (f_X10_failed N R σ x0) (fun a1 σ1 => if a1 = 0 then (bd (f_X10_skipSpaces N R σ1 x0) (fun _ σ3 => bd (f_X10_endOfRun N R σ3 x0 (48 : Int32) (57 : Int32)) (fun a4 σ4 => if a4 = (σ4 x0 2) then (bd (f_X10_fail N R σ4 x0 (σ4 x0 2) (1 : Int32)) (fun _ σ15 => some ((-1 : Int32), σ15))) else (if (a4 - (σ4 x0 2)) ≤ (5 : Int32) then (bd (f_X10_valueUpTo N R σ4 x0 a4) (fun a7 σ7 => if a7 < x1 then (f_X10_takeNumber_74 N R σ7 x0) else (if a7 ≤ x2 then (sq (up σ7 x0 2 a4) (fun σ11 => some (a7, σ11))) else (f_X10_takeNumber_74 N R σ7 x0)))) else (if (-1 : Int32) < x1 then (f_X10_takeNumber_74 N R σ4 x0) else (if (-1 : Int32) ≤ x2 then (sq (up σ4 x0 2 a4) (fun σ14 => some ((-1 : Int32), σ14))) else (f_X10_takeNumber_74 N R σ4 x0))))))) else (some ((-1 : Int32), σ1)))
set_option maxHeartbeats 4000000 in
set_option maxRecDepth 100000 in
theorem w_X10_takeNumber_74 {l : Launch} {g : GL} {p : Program} {e : Jvm.Env} {s : State} {m : MethodId} {args : Array Value} {below : List Frame} {meth : Method} {c : Code} {R : Nat → Nat → Nat} {L : Nat → Nat → Int64} {r : (Int32 × SI)} {N : Nat} (C : Cx l g p s m meth c cX10_takeNumber 5 RX10) (hr : meth.sig.returnType = (some .int)) (hSh : ShR R) : ∀ (σ : SI) (x0 : Nat), f_X10_takeNumber_74 N R σ x0 = some r → Ok 194 x0 10 → ∀ (H : Heap) (locs : List Loc) (ls : Array Slot), S2 g s σ R L H locs → lv_has ls 5 [(0, .ref (gb g + x0))] → W p l e (rmd 2 0 0) s m args below meth c H locs 0 0 (MQ below (Qg g 194 (PI R L r)) args s 0 0 (gA g)) (F0 m 74 ls []) := by
  have hx := C.1
  have hb := C.2.1
  intro σ x0 h hx0 H locs ls S hl
  rw [f_X10_takeNumber_74] at h
  refine lv_aload_n hx hb dX10_takeNumber_74 rfl (lv_at hl 0 rfl) ?_
  refine lv_aload_n hx hb dX10_takeNumber_75 rfl (lv_at hl 0 rfl) ?_
  refine x_getI C S KX10 hx0 2 (by decide) rfl rfl fl_RX10_22 dX10_takeNumber_76 ?_
  refine lv_iconst (v := (2 : Int32)) hx hb dX10_takeNumber_79 (by decide) ?_
  obtain ⟨a9, σ9, hc9, h⟩ := bd_el h
  refine x_callVV C S KX10 hx0 (ok_X10_fail (L := L) hc9 hSh hx0) ⟨cd_X10_fail, ni_RX10, ml_RX10_35, in_X10_fail, sl_X10_fail⟩ ⟨by decide, by decide⟩ rfl ⟨by decide, by decide⟩ hl.1 rfl (Nat.le_of_ble_eq_true rfl) ⟨by decide, by decide⟩ dX10_takeNumber_80 (fun H locs S => ?_)
  refine lv_iconst (v := (-1 : Int32)) hx hb dX10_takeNumber_83 (by decide) ?_
  exact x_iret C S hr h dX10_takeNumber_84
set_option maxHeartbeats 4000000 in
set_option maxRecDepth 100000 in
theorem ok_X10_takeNumber {l : Launch} {g : GL} {R : Nat → Nat → Nat} {L : Nat → Nat → Int64} {N : Nat} {σ : SI} {x0 : Nat} {x1 : Int32} {x2 : Int32} {r : (Int32 × SI)} (h : f_X10_takeNumber N R σ x0 x1 x2 = some r) (hSh : ShR R) (hx0 : Ok 194 x0 10) : Ct l g 2 yX10_takeNumber cX10_takeNumber 5 (some .int) 194 194 0 0 [.ref (gb g + x0), .int x1, .int x2] (mkS σ R L) (PI R L r) := by
  refine Met.ofW (cc := cX10_takeNumber) (maxL := 5) (ret := (some .int)) (by decide) rfl ?_
  intro p e s m args below meth c s₁ B hml hv
  obtain ⟨rfl, hE, hLo, hWd⟩ := hv
  have hr : meth.sig.returnType = (some .int) := B.returns
  have C : Cx l g p s m meth c cX10_takeNumber 5 RX10 := ⟨B.exec, B.bytes, hml, findClass_of_methodNamed B.named, hE, hLo, B.notSynchronized⟩
  have S : S2 g s σ R L s.heap [] := ⟨hWd, va_S.rf⟩
  have hx := C.1
  have hb := C.2.1
  have hl := lv_entry ([.ref (gb g + x0), .int x1, .int x2]) (n := 5) (Nat.le_of_ble_eq_true rfl)
  rw [lg_entry_eq]
  generalize (lg_sl ([.ref (gb g + x0), .int x1, .int x2]) ++ List.replicate (5 - (lg_sl ([.ref (gb g + x0), .int x1, .int x2])).length) Slot.unset).toArray = ls at hl ⊢
  have hl : lv_has ls 5 [(0, .ref (gb g + x0)), (1, .int x1), (2, .int x2)] := hl
  generalize hH : s.heap = H at S ⊢
  generalize hlc : ([] : List Loc) = locs at S ⊢
  rw [f_X10_takeNumber] at h
  refine lv_aload_n hx hb dX10_takeNumber_0 rfl (lv_at hl 0 rfl) ?_
  obtain ⟨a1, σ1, hc1, h⟩ := bd_el h
  refine x_callVI C S KX10 hx0 (ok_X10_failed (L := L) hc1 hSh hx0) ⟨cd_X10_failed, ni_RX10, ml_RX10_52, in_X10_failed, sl_X10_failed⟩ ⟨by decide, by decide⟩ rfl ⟨by decide, by decide⟩ hl.1 rfl (Nat.le_of_ble_eq_true rfl) ⟨by decide, by decide⟩ dX10_takeNumber_1 (fun H locs S => ?_)
  refine lv_if_eq (tgt := 9) hx hb dX10_takeNumber_4 (by decide) (fun c2 => ?_) (fun c2 => ?_)
  · have h := it_p c2 h
    refine lv_aload_n hx hb dX10_takeNumber_9 rfl (lv_at hl 0 rfl) ?_
    obtain ⟨a3, σ3, hc3, h⟩ := bd_el h
    refine x_callVV C S KX10 hx0 (ok_X10_skipSpaces (L := L) hc3 hSh hx0) ⟨cd_X10_skipSpaces, ni_RX10, ml_RX10_28, in_X10_skipSpaces, sl_X10_skipSpaces⟩ ⟨by decide, by decide⟩ rfl ⟨by decide, by decide⟩ hl.1 rfl (Nat.le_of_ble_eq_true rfl) ⟨by decide, by decide⟩ dX10_takeNumber_10 (fun H locs S => ?_)
    refine lv_aload_n hx hb dX10_takeNumber_13 rfl (lv_at hl 0 rfl) ?_
    refine lv_bipush (v := (48 : Int32)) hx hb dX10_takeNumber_14 (by decide) ?_
    refine lv_bipush (v := (57 : Int32)) hx hb dX10_takeNumber_16 (by decide) ?_
    obtain ⟨a4, σ4, hc4, h⟩ := bd_el h
    refine x_callVI C S KX10 hx0 (ok_X10_endOfRun (L := L) hc4 hSh hx0) ⟨cd_X10_endOfRun, ni_RX10, ml_RX10_31, in_X10_endOfRun, sl_X10_endOfRun⟩ ⟨by decide, by decide⟩ rfl ⟨by decide, by decide⟩ hl.1 rfl (Nat.le_of_ble_eq_true rfl) ⟨by decide, by decide⟩ dX10_takeNumber_18 (fun H locs S => ?_)
    refine lv_istore_n (lv' := [(3, .int a4), (0, .ref (gb g + x0)), (1, .int x1), (2, .int x2)]) hx hb dX10_takeNumber_21 rfl hl (by decide) rfl (fun ls hl => ?_)
    refine lv_iload_n hx hb dX10_takeNumber_22 rfl (lv_at hl 0 rfl) ?_
    refine lv_aload_n hx hb dX10_takeNumber_23 rfl (lv_at hl 1 rfl) ?_
    refine x_getI C S KX10 hx0 2 (by decide) rfl rfl fl_RX10_22 dX10_takeNumber_24 ?_
    refine lv_icmp_ne (tgt := 41) hx hb dX10_takeNumber_27 (by decide) (fun c5 => ?_) (fun c5 => ?_)
    · have h := it_n c5 h
      refine lv_iload_n hx hb dX10_takeNumber_41 rfl (lv_at hl 0 rfl) ?_
      refine lv_aload_n hx hb dX10_takeNumber_42 rfl (lv_at hl 1 rfl) ?_
      refine x_getI C S KX10 hx0 2 (by decide) rfl rfl fl_RX10_22 dX10_takeNumber_43 ?_
      refine lv_isub hx hb dX10_takeNumber_46 ?_
      refine lv_iconst (v := (5 : Int32)) hx hb dX10_takeNumber_47 (by decide) ?_
      refine lv_icmp_le (tgt := 55) hx hb dX10_takeNumber_48 (by decide) (fun c6 => ?_) (fun c6 => ?_)
      · have h := it_p c6 h
        refine lv_aload_n hx hb dX10_takeNumber_55 rfl (lv_at hl 1 rfl) ?_
        refine lv_iload_n hx hb dX10_takeNumber_56 rfl (lv_at hl 0 rfl) ?_
        obtain ⟨a7, σ7, hc7, h⟩ := bd_el h
        refine x_callVI C S KX10 hx0 (ok_X10_valueUpTo (L := L) hc7 hSh hx0) ⟨cd_X10_valueUpTo, ni_RX10, ml_RX10_56, in_X10_valueUpTo, sl_X10_valueUpTo⟩ ⟨by decide, by decide⟩ rfl ⟨by decide, by decide⟩ hl.1 rfl (Nat.le_of_ble_eq_true rfl) ⟨by decide, by decide⟩ dX10_takeNumber_57 (fun H locs S => ?_)
        refine lv_istore (lv' := [(4, .int a7), (3, .int a4), (0, .ref (gb g + x0)), (1, .int x1), (2, .int x2)]) hx hb dX10_takeNumber_60 hl (by decide) rfl (fun ls hl => ?_)
        refine lv_iload hx hb dX10_takeNumber_62 (lv_at hl 0 rfl) ?_
        refine lv_iload_n hx hb dX10_takeNumber_64 rfl (lv_at hl 3 rfl) ?_
        refine lv_icmp_lt (tgt := 74) hx hb dX10_takeNumber_65 (by decide) (fun c8 => ?_) (fun c8 => ?_)
        · have h := it_p c8 h
          exact w_X10_takeNumber_74 C hr hSh σ7 x0 h hx0 H locs ls S (lv_sub hl [2] rfl)
        · have h := it_n c8 h
          refine lv_iload hx hb dX10_takeNumber_68 (lv_at hl 0 rfl) ?_
          refine lv_iload_n hx hb dX10_takeNumber_70 rfl (lv_at hl 4 rfl) ?_
          refine lv_icmp_le (tgt := 85) hx hb dX10_takeNumber_71 (by decide) (fun c10 => ?_) (fun c10 => ?_)
          · have h := it_p c10 h
            refine lv_aload_n hx hb dX10_takeNumber_85 rfl (lv_at hl 2 rfl) ?_
            refine lv_iload_n hx hb dX10_takeNumber_86 rfl (lv_at hl 1 rfl) ?_
            obtain ⟨σ11, hs11, h⟩ := sq_el h
            refine x_putI C S KX10 hx0 2 (by decide) rfl rfl rfl ⟨rfl, rfl⟩ fl_RX10_22 dX10_takeNumber_87 hs11 (fun H locs S => ?_)
            refine lv_iload hx hb dX10_takeNumber_90 (lv_at hl 0 rfl) ?_
            exact x_iret C S hr h dX10_takeNumber_92
          · have h := it_n c10 h
            exact w_X10_takeNumber_74 C hr hSh σ7 x0 h hx0 H locs ls S (lv_sub hl [2] rfl)
      · have h := it_n c6 h
        refine lv_iconst (v := (-1 : Int32)) hx hb dX10_takeNumber_51 (by decide) ?_
        refine lv_goto (tgt := 60) hx hb dX10_takeNumber_52 (by decide) ?_
        refine lv_istore (lv' := [(4, .int (-1 : Int32)), (3, .int a4), (0, .ref (gb g + x0)), (1, .int x1), (2, .int x2)]) hx hb dX10_takeNumber_60 hl (by decide) rfl (fun ls hl => ?_)
        refine lv_iload hx hb dX10_takeNumber_62 (lv_at hl 0 rfl) ?_
        refine lv_iload_n hx hb dX10_takeNumber_64 rfl (lv_at hl 3 rfl) ?_
        refine lv_icmp_lt (tgt := 74) hx hb dX10_takeNumber_65 (by decide) (fun c12 => ?_) (fun c12 => ?_)
        · have h := it_p c12 h
          exact w_X10_takeNumber_74 C hr hSh σ4 x0 h hx0 H locs ls S (lv_sub hl [2] rfl)
        · have h := it_n c12 h
          refine lv_iload hx hb dX10_takeNumber_68 (lv_at hl 0 rfl) ?_
          refine lv_iload_n hx hb dX10_takeNumber_70 rfl (lv_at hl 4 rfl) ?_
          refine lv_icmp_le (tgt := 85) hx hb dX10_takeNumber_71 (by decide) (fun c13 => ?_) (fun c13 => ?_)
          · have h := it_p c13 h
            refine lv_aload_n hx hb dX10_takeNumber_85 rfl (lv_at hl 2 rfl) ?_
            refine lv_iload_n hx hb dX10_takeNumber_86 rfl (lv_at hl 1 rfl) ?_
            obtain ⟨σ14, hs14, h⟩ := sq_el h
            refine x_putI C S KX10 hx0 2 (by decide) rfl rfl rfl ⟨rfl, rfl⟩ fl_RX10_22 dX10_takeNumber_87 hs14 (fun H locs S => ?_)
            refine lv_iload hx hb dX10_takeNumber_90 (lv_at hl 0 rfl) ?_
            exact x_iret C S hr h dX10_takeNumber_92
          · have h := it_n c13 h
            exact w_X10_takeNumber_74 C hr hSh σ4 x0 h hx0 H locs ls S (lv_sub hl [2] rfl)
    · have h := it_p c5 h
      refine lv_aload_n hx hb dX10_takeNumber_30 rfl (lv_at hl 1 rfl) ?_
      refine lv_aload_n hx hb dX10_takeNumber_31 rfl (lv_at hl 1 rfl) ?_
      refine x_getI C S KX10 hx0 2 (by decide) rfl rfl fl_RX10_22 dX10_takeNumber_32 ?_
      refine lv_iconst (v := (1 : Int32)) hx hb dX10_takeNumber_35 (by decide) ?_
      obtain ⟨a15, σ15, hc15, h⟩ := bd_el h
      refine x_callVV C S KX10 hx0 (ok_X10_fail (L := L) hc15 hSh hx0) ⟨cd_X10_fail, ni_RX10, ml_RX10_35, in_X10_fail, sl_X10_fail⟩ ⟨by decide, by decide⟩ rfl ⟨by decide, by decide⟩ hl.1 rfl (Nat.le_of_ble_eq_true rfl) ⟨by decide, by decide⟩ dX10_takeNumber_36 (fun H locs S => ?_)
      refine lv_iconst (v := (-1 : Int32)) hx hb dX10_takeNumber_39 (by decide) ?_
      exact x_iret C S hr h dX10_takeNumber_40
  · have h := it_n c2 h
    refine lv_iconst (v := (-1 : Int32)) hx hb dX10_takeNumber_7 (by decide) ?_
    exact x_iret C S hr h dX10_takeNumber_8
theorem dX11_totalClosed_0 : decode cX11_totalClosed 0 = .ok (.aload_n 0, 1) := by decide +kernel
theorem dX11_totalClosed_1 : decode cX11_totalClosed 1 = .ok (.getfield 61, 3) := by decide +kernel
theorem dX11_totalClosed_4 : decode cX11_totalClosed 4 = .ok (.aload_n 0, 1) := by decide +kernel
theorem dX11_totalClosed_5 : decode cX11_totalClosed 5 = .ok (.getfield 47, 3) := by decide +kernel
theorem dX11_totalClosed_8 : decode cX11_totalClosed 8 = .ok (.invokevirtual 283, 3) := by decide +kernel
theorem dX11_totalClosed_11 : decode cX11_totalClosed 11 = .ok (.ireturn, 1) := by decide +kernel
def f_X11_totalClosed (N : Nat) (R : Nat → Nat → Nat) (σ : SI) (x0 : Nat) : Option (Int32 × SI) := bd (f_X9_closedTotal N R σ (R x0 8) (R x0 5)) (fun a3 σ3 => some (a3, σ3))
set_option maxHeartbeats 4000000 in
set_option maxRecDepth 100000 in
theorem ok_X11_totalClosed {l : Launch} {g : GL} {R : Nat → Nat → Nat} {L : Nat → Nat → Int64} {N : Nat} {σ : SI} {x0 : Nat} {r : (Int32 × SI)} (h : f_X11_totalClosed N R σ x0 = some r) (hSh : ShR R) (hx0 : Ok 194 x0 11) : Ct l g 5 yX11_totalClosed cX11_totalClosed 1 (some .int) 194 194 0 0 [.ref (gb g + x0)] (mkS σ R L) (PI R L r) := by
  refine Met.ofW (cc := cX11_totalClosed) (maxL := 1) (ret := (some .int)) (by decide) rfl ?_
  intro p e s m args below meth c s₁ B hml hv
  obtain ⟨rfl, hE, hLo, hWd⟩ := hv
  have hr : meth.sig.returnType = (some .int) := B.returns
  have C : Cx l g p s m meth c cX11_totalClosed 1 RX11 := ⟨B.exec, B.bytes, hml, findClass_of_methodNamed B.named, hE, hLo, B.notSynchronized⟩
  have S : S2 g s σ R L s.heap [] := ⟨hWd, va_S.rf⟩
  have hx := C.1
  have hb := C.2.1
  have hl := lv_entry ([.ref (gb g + x0)]) (n := 1) (Nat.le_of_ble_eq_true rfl)
  rw [lg_entry_eq]
  generalize (lg_sl ([.ref (gb g + x0)]) ++ List.replicate (1 - (lg_sl ([.ref (gb g + x0)])).length) Slot.unset).toArray = ls at hl ⊢
  have hl : lv_has ls 1 [(0, .ref (gb g + x0))] := hl
  generalize hH : s.heap = H at S ⊢
  generalize hlc : ([] : List Loc) = locs at S ⊢
  rw [f_X11_totalClosed] at h
  refine lv_aload_n hx hb dX11_totalClosed_0 rfl (lv_at hl 0 rfl) ?_
  have hR1 : Ok 194 (R x0 8) 9 := hSh x0 11 8 9 hx0.1 rfl
  refine x_getR C S KX11 hx0 8 (by decide) rfl rfl fl_RX11_61 hR1 dX11_totalClosed_1 ?_
  refine lv_aload_n hx hb dX11_totalClosed_4 rfl (lv_at hl 0 rfl) ?_
  have hR2 : Ok 194 (R x0 5) 3 := hSh x0 11 5 3 hx0.1 rfl
  refine x_getR C S KX11 hx0 5 (by decide) rfl rfl fl_RX11_47 hR2 dX11_totalClosed_5 ?_
  obtain ⟨a3, σ3, hc3, h⟩ := bd_el h
  refine x_callVI C S KX9 hR1 (ok_X9_closedTotal (L := L) hc3 hSh hR1 hR2) ⟨cd_X9_closedTotal, ni_RX9, ml_RX11_283, in_X9_closedTotal, sl_X9_closedTotal⟩ ⟨by decide, by decide⟩ rfl ⟨by decide, by decide⟩ hl.1 rfl (Nat.le_of_ble_eq_true rfl) ⟨by decide, by decide⟩ dX11_totalClosed_8 (fun H locs S => ?_)
  exact x_iret C S hr h dX11_totalClosed_11
theorem dX11_sirenCount_0 : decode cX11_sirenCount 0 = .ok (.aload_n 0, 1) := by decide +kernel
theorem dX11_sirenCount_1 : decode cX11_sirenCount 1 = .ok (.getfield 33, 3) := by decide +kernel
theorem dX11_sirenCount_4 : decode cX11_sirenCount 4 = .ok (.aload_n 0, 1) := by decide +kernel
theorem dX11_sirenCount_5 : decode cX11_sirenCount 5 = .ok (.getfield 61, 3) := by decide +kernel
theorem dX11_sirenCount_8 : decode cX11_sirenCount 8 = .ok (.invokevirtual 305, 3) := by decide +kernel
theorem dX11_sirenCount_11 : decode cX11_sirenCount 11 = .ok (.aload_n 0, 1) := by decide +kernel
theorem dX11_sirenCount_12 : decode cX11_sirenCount 12 = .ok (.getfield 33, 3) := by decide +kernel
theorem dX11_sirenCount_15 : decode cX11_sirenCount 15 = .ok (.getfield 309, 3) := by decide +kernel
theorem dX11_sirenCount_18 : decode cX11_sirenCount 18 = .ok (.ireturn, 1) := by decide +kernel
def f_X11_sirenCount (N : Nat) (R : Nat → Nat → Nat) (σ : SI) (x0 : Nat) : Option (Int32 × SI) := bd (f_X8_gather N R σ (R x0 3) (R x0 8)) (fun _ σ3 => some (σ3 (R x0 3) 1, σ3))
set_option maxHeartbeats 4000000 in
set_option maxRecDepth 100000 in
theorem ok_X11_sirenCount {l : Launch} {g : GL} {R : Nat → Nat → Nat} {L : Nat → Nat → Int64} {N : Nat} {σ : SI} {x0 : Nat} {r : (Int32 × SI)} (h : f_X11_sirenCount N R σ x0 = some r) (hSh : ShR R) (hx0 : Ok 194 x0 11) : Ct l g 3 yX11_sirenCount cX11_sirenCount 1 (some .int) 194 194 0 0 [.ref (gb g + x0)] (mkS σ R L) (PI R L r) := by
  refine Met.ofW (cc := cX11_sirenCount) (maxL := 1) (ret := (some .int)) (by decide) rfl ?_
  intro p e s m args below meth c s₁ B hml hv
  obtain ⟨rfl, hE, hLo, hWd⟩ := hv
  have hr : meth.sig.returnType = (some .int) := B.returns
  have C : Cx l g p s m meth c cX11_sirenCount 1 RX11 := ⟨B.exec, B.bytes, hml, findClass_of_methodNamed B.named, hE, hLo, B.notSynchronized⟩
  have S : S2 g s σ R L s.heap [] := ⟨hWd, va_S.rf⟩
  have hx := C.1
  have hb := C.2.1
  have hl := lv_entry ([.ref (gb g + x0)]) (n := 1) (Nat.le_of_ble_eq_true rfl)
  rw [lg_entry_eq]
  generalize (lg_sl ([.ref (gb g + x0)]) ++ List.replicate (1 - (lg_sl ([.ref (gb g + x0)])).length) Slot.unset).toArray = ls at hl ⊢
  have hl : lv_has ls 1 [(0, .ref (gb g + x0))] := hl
  generalize hH : s.heap = H at S ⊢
  generalize hlc : ([] : List Loc) = locs at S ⊢
  rw [f_X11_sirenCount] at h
  refine lv_aload_n hx hb dX11_sirenCount_0 rfl (lv_at hl 0 rfl) ?_
  have hR1 : Ok 194 (R x0 3) 8 := hSh x0 11 3 8 hx0.1 rfl
  refine x_getR C S KX11 hx0 3 (by decide) rfl rfl fl_RX11_33 hR1 dX11_sirenCount_1 ?_
  refine lv_aload_n hx hb dX11_sirenCount_4 rfl (lv_at hl 0 rfl) ?_
  have hR2 : Ok 194 (R x0 8) 9 := hSh x0 11 8 9 hx0.1 rfl
  refine x_getR C S KX11 hx0 8 (by decide) rfl rfl fl_RX11_61 hR2 dX11_sirenCount_5 ?_
  obtain ⟨a3, σ3, hc3, h⟩ := bd_el h
  refine x_callVV C S KX8 hR1 (ok_X8_gather (L := L) hc3 hSh hR1 hR2) ⟨cd_X8_gather, ni_RX8, ml_RX11_305, in_X8_gather, sl_X8_gather⟩ ⟨by decide, by decide⟩ rfl ⟨by decide, by decide⟩ hl.1 rfl (Nat.le_of_ble_eq_true rfl) ⟨by decide, by decide⟩ dX11_sirenCount_8 (fun H locs S => ?_)
  refine lv_aload_n hx hb dX11_sirenCount_11 rfl (lv_at hl 0 rfl) ?_
  have hR4 : Ok 194 (R x0 3) 8 := hSh x0 11 3 8 hx0.1 rfl
  refine x_getR C S KX11 hx0 3 (by decide) rfl rfl fl_RX11_33 hR4 dX11_sirenCount_12 ?_
  refine x_getI C S KX8 hR4 1 (by decide) rfl rfl fl_RX11_309 dX11_sirenCount_15 ?_
  exact x_iret C S hr h dX11_sirenCount_18
theorem dX11_undo_0 : decode cX11_undo 0 = .ok (.aload_n 0, 1) := by decide +kernel
theorem dX11_undo_1 : decode cX11_undo 1 = .ok (.getfield 19, 3) := by decide +kernel
theorem dX11_undo_4 : decode cX11_undo 4 = .ok (.getfield 338, 3) := by decide +kernel
theorem dX11_undo_7 : decode cX11_undo 7 = .ok (.ifCond .ne 5, 3) := by decide +kernel
theorem dX11_undo_10 : decode cX11_undo 10 = .ok (.iconst (-1), 1) := by decide +kernel
theorem dX11_undo_11 : decode cX11_undo 11 = .ok (.ireturn, 1) := by decide +kernel
theorem dX11_undo_12 : decode cX11_undo 12 = .ok (.aload_n 0, 1) := by decide +kernel
theorem dX11_undo_13 : decode cX11_undo 13 = .ok (.getfield 19, 3) := by decide +kernel
theorem dX11_undo_16 : decode cX11_undo 16 = .ok (.aload_n 0, 1) := by decide +kernel
theorem dX11_undo_17 : decode cX11_undo 17 = .ok (.getfield 61, 3) := by decide +kernel
theorem dX11_undo_20 : decode cX11_undo 20 = .ok (.invokevirtual 341, 3) := by decide +kernel
theorem dX11_undo_23 : decode cX11_undo 23 = .ok (.aload_n 0, 1) := by decide +kernel
theorem dX11_undo_24 : decode cX11_undo 24 = .ok (.getfield 26, 3) := by decide +kernel
theorem dX11_undo_27 : decode cX11_undo 27 = .ok (.invokevirtual 103, 3) := by decide +kernel
theorem dX11_undo_30 : decode cX11_undo 30 = .ok (.aload_n 0, 1) := by decide +kernel
theorem dX11_undo_31 : decode cX11_undo 31 = .ok (.getfield 19, 3) := by decide +kernel
theorem dX11_undo_34 : decode cX11_undo 34 = .ok (.getfield 338, 3) := by decide +kernel
theorem dX11_undo_37 : decode cX11_undo 37 = .ok (.ireturn, 1) := by decide +kernel
def f_X11_undo (N : Nat) (R : Nat → Nat → Nat) (σ : SI) (x0 : Nat) : Option (Int32 × SI) := if (σ (R x0 1) 2) = 0 then (some ((-1 : Int32), σ)) else (bd (f_X2_restore N R σ (R x0 1) (R x0 8)) (fun _ σ5 => bd (f_X6_forget N R σ5 (R x0 2)) (fun _ σ7 => some (σ7 (R x0 1) 2, σ7))))
set_option maxHeartbeats 4000000 in
set_option maxRecDepth 100000 in
theorem ok_X11_undo {l : Launch} {g : GL} {R : Nat → Nat → Nat} {L : Nat → Nat → Int64} {N : Nat} {σ : SI} {x0 : Nat} {r : (Int32 × SI)} (h : f_X11_undo N R σ x0 = some r) (hSh : ShR R) (hx0 : Ok 194 x0 11) : Ct l g 5 yX11_undo cX11_undo 1 (some .int) 194 194 0 0 [.ref (gb g + x0)] (mkS σ R L) (PI R L r) := by
  refine Met.ofW (cc := cX11_undo) (maxL := 1) (ret := (some .int)) (by decide) rfl ?_
  intro p e s m args below meth c s₁ B hml hv
  obtain ⟨rfl, hE, hLo, hWd⟩ := hv
  have hr : meth.sig.returnType = (some .int) := B.returns
  have C : Cx l g p s m meth c cX11_undo 1 RX11 := ⟨B.exec, B.bytes, hml, findClass_of_methodNamed B.named, hE, hLo, B.notSynchronized⟩
  have S : S2 g s σ R L s.heap [] := ⟨hWd, va_S.rf⟩
  have hx := C.1
  have hb := C.2.1
  have hl := lv_entry ([.ref (gb g + x0)]) (n := 1) (Nat.le_of_ble_eq_true rfl)
  rw [lg_entry_eq]
  generalize (lg_sl ([.ref (gb g + x0)]) ++ List.replicate (1 - (lg_sl ([.ref (gb g + x0)])).length) Slot.unset).toArray = ls at hl ⊢
  have hl : lv_has ls 1 [(0, .ref (gb g + x0))] := hl
  generalize hH : s.heap = H at S ⊢
  generalize hlc : ([] : List Loc) = locs at S ⊢
  rw [f_X11_undo] at h
  refine lv_aload_n hx hb dX11_undo_0 rfl (lv_at hl 0 rfl) ?_
  have hR1 : Ok 194 (R x0 1) 2 := hSh x0 11 1 2 hx0.1 rfl
  refine x_getR C S KX11 hx0 1 (by decide) rfl rfl fl_RX11_19 hR1 dX11_undo_1 ?_
  refine x_getI C S KX2 hR1 2 (by decide) rfl rfl fl_RX11_338 dX11_undo_4 ?_
  refine lv_if_ne (tgt := 12) hx hb dX11_undo_7 (by decide) (fun c2 => ?_) (fun c2 => ?_)
  · have h := it_n c2 h
    refine lv_aload_n hx hb dX11_undo_12 rfl (lv_at hl 0 rfl) ?_
    have hR3 : Ok 194 (R x0 1) 2 := hSh x0 11 1 2 hx0.1 rfl
    refine x_getR C S KX11 hx0 1 (by decide) rfl rfl fl_RX11_19 hR3 dX11_undo_13 ?_
    refine lv_aload_n hx hb dX11_undo_16 rfl (lv_at hl 0 rfl) ?_
    have hR4 : Ok 194 (R x0 8) 9 := hSh x0 11 8 9 hx0.1 rfl
    refine x_getR C S KX11 hx0 8 (by decide) rfl rfl fl_RX11_61 hR4 dX11_undo_17 ?_
    obtain ⟨a5, σ5, hc5, h⟩ := bd_el h
    refine x_callVV C S KX2 hR3 (ok_X2_restore (L := L) hc5 hSh hR3 hR4) ⟨cd_X2_restore, ni_RX2, ml_RX11_341, in_X2_restore, sl_X2_restore⟩ ⟨by decide, by decide⟩ rfl ⟨by decide, by decide⟩ hl.1 rfl (Nat.le_of_ble_eq_true rfl) ⟨by decide, by decide⟩ dX11_undo_20 (fun H locs S => ?_)
    refine lv_aload_n hx hb dX11_undo_23 rfl (lv_at hl 0 rfl) ?_
    have hR6 : Ok 194 (R x0 2) 6 := hSh x0 11 2 6 hx0.1 rfl
    refine x_getR C S KX11 hx0 2 (by decide) rfl rfl fl_RX11_26 hR6 dX11_undo_24 ?_
    obtain ⟨a7, σ7, hc7, h⟩ := bd_el h
    refine x_callVV C S KX6 hR6 (ok_X6_forget (L := L) hc7 hSh hR6) ⟨cd_X6_forget, ni_RX6, ml_RX11_103, in_X6_forget, sl_X6_forget⟩ ⟨by decide, by decide⟩ rfl ⟨by decide, by decide⟩ hl.1 rfl (Nat.le_of_ble_eq_true rfl) ⟨by decide, by decide⟩ dX11_undo_27 (fun H locs S => ?_)
    refine lv_aload_n hx hb dX11_undo_30 rfl (lv_at hl 0 rfl) ?_
    have hR8 : Ok 194 (R x0 1) 2 := hSh x0 11 1 2 hx0.1 rfl
    refine x_getR C S KX11 hx0 1 (by decide) rfl rfl fl_RX11_19 hR8 dX11_undo_31 ?_
    refine x_getI C S KX2 hR8 2 (by decide) rfl rfl fl_RX11_338 dX11_undo_34 ?_
    exact x_iret C S hr h dX11_undo_37
  · have h := it_p c2 h
    refine lv_iconst (v := (-1 : Int32)) hx hb dX11_undo_10 (by decide) ?_
    exact x_iret C S hr h dX11_undo_11
theorem dX11_isAllowed_0 : decode cX11_isAllowed 0 = .ok (.aload_n 0, 1) := by decide +kernel
theorem dX11_isAllowed_1 : decode cX11_isAllowed 1 = .ok (.getfield 61, 3) := by decide +kernel
theorem dX11_isAllowed_4 : decode cX11_isAllowed 4 = .ok (.iload_n 1, 1) := by decide +kernel
theorem dX11_isAllowed_5 : decode cX11_isAllowed 5 = .ok (.iload_n 2, 1) := by decide +kernel
theorem dX11_isAllowed_6 : decode cX11_isAllowed 6 = .ok (.aload_n 0, 1) := by decide +kernel
theorem dX11_isAllowed_7 : decode cX11_isAllowed 7 = .ok (.getfield 61, 3) := by decide +kernel
theorem dX11_isAllowed_10 : decode cX11_isAllowed 10 = .ok (.getfield 228, 3) := by decide +kernel
theorem dX11_isAllowed_13 : decode cX11_isAllowed 13 = .ok (.invokevirtual 235, 3) := by decide +kernel
theorem dX11_isAllowed_16 : decode cX11_isAllowed 16 = .ok (.ifCond .ne 7, 3) := by decide +kernel
theorem dX11_isAllowed_19 : decode cX11_isAllowed 19 = .ok (.iconst 1, 1) := by decide +kernel
theorem dX11_isAllowed_20 : decode cX11_isAllowed 20 = .ok (.goto 4, 3) := by decide +kernel
theorem dX11_isAllowed_23 : decode cX11_isAllowed 23 = .ok (.iconst 0, 1) := by decide +kernel
theorem dX11_isAllowed_24 : decode cX11_isAllowed 24 = .ok (.ireturn, 1) := by decide +kernel
def f_X11_isAllowed (N : Nat) (R : Nat → Nat → Nat) (σ : SI) (x0 : Nat) (x1 : Int32) (x2 : Int32) : Option (Int32 × SI) := bd (f_X9_reasonAgainst N R σ (R x0 8) x1 x2 (R (R x0 8) 6)) (fun a4 σ4 => if a4 = 0 then (some ((1 : Int32), σ4)) else (some ((0 : Int32), σ4)))
set_option maxHeartbeats 4000000 in
set_option maxRecDepth 100000 in
theorem ok_X11_isAllowed {l : Launch} {g : GL} {R : Nat → Nat → Nat} {L : Nat → Nat → Int64} {N : Nat} {σ : SI} {x0 : Nat} {x1 : Int32} {x2 : Int32} {r : (Int32 × SI)} (h : f_X11_isAllowed N R σ x0 x1 x2 = some r) (hSh : ShR R) (hx0 : Ok 194 x0 11) : Ct l g 4 yX11_isAllowed cX11_isAllowed 3 (some .boolean) 194 194 0 0 [.ref (gb g + x0), .int x1, .int x2] (mkS σ R L) (PI R L r) := by
  refine Met.ofW (cc := cX11_isAllowed) (maxL := 3) (ret := (some .boolean)) (by decide) rfl ?_
  intro p e s m args below meth c s₁ B hml hv
  obtain ⟨rfl, hE, hLo, hWd⟩ := hv
  have hr : meth.sig.returnType = (some .boolean) := B.returns
  have C : Cx l g p s m meth c cX11_isAllowed 3 RX11 := ⟨B.exec, B.bytes, hml, findClass_of_methodNamed B.named, hE, hLo, B.notSynchronized⟩
  have S : S2 g s σ R L s.heap [] := ⟨hWd, va_S.rf⟩
  have hx := C.1
  have hb := C.2.1
  have hl := lv_entry ([.ref (gb g + x0), .int x1, .int x2]) (n := 3) (Nat.le_of_ble_eq_true rfl)
  rw [lg_entry_eq]
  generalize (lg_sl ([.ref (gb g + x0), .int x1, .int x2]) ++ List.replicate (3 - (lg_sl ([.ref (gb g + x0), .int x1, .int x2])).length) Slot.unset).toArray = ls at hl ⊢
  have hl : lv_has ls 3 [(0, .ref (gb g + x0)), (1, .int x1), (2, .int x2)] := hl
  generalize hH : s.heap = H at S ⊢
  generalize hlc : ([] : List Loc) = locs at S ⊢
  rw [f_X11_isAllowed] at h
  refine lv_aload_n hx hb dX11_isAllowed_0 rfl (lv_at hl 0 rfl) ?_
  have hR1 : Ok 194 (R x0 8) 9 := hSh x0 11 8 9 hx0.1 rfl
  refine x_getR C S KX11 hx0 8 (by decide) rfl rfl fl_RX11_61 hR1 dX11_isAllowed_1 ?_
  refine lv_iload_n hx hb dX11_isAllowed_4 rfl (lv_at hl 1 rfl) ?_
  refine lv_iload_n hx hb dX11_isAllowed_5 rfl (lv_at hl 2 rfl) ?_
  refine lv_aload_n hx hb dX11_isAllowed_6 rfl (lv_at hl 0 rfl) ?_
  have hR2 : Ok 194 (R x0 8) 9 := hSh x0 11 8 9 hx0.1 rfl
  refine x_getR C S KX11 hx0 8 (by decide) rfl rfl fl_RX11_61 hR2 dX11_isAllowed_7 ?_
  have hR3 : Ok 194 (R (R x0 8) 6) 10006 := hSh (R x0 8) 9 6 10006 hR2.1 rfl
  refine x_getR C S KX9 hR2 6 (by decide) rfl rfl fl_RX11_228 hR3 dX11_isAllowed_10 ?_
  obtain ⟨a4, σ4, hc4, h⟩ := bd_el h
  refine x_callVI C S KX9 hR1 (ok_X9_reasonAgainst (L := L) hc4 hSh hR1 hR3) ⟨cd_X9_reasonAgainst, ni_RX9, ml_RX11_235, in_X9_reasonAgainst, sl_X9_reasonAgainst⟩ ⟨by decide, by decide⟩ rfl ⟨by decide, by decide⟩ hl.1 rfl (Nat.le_of_ble_eq_true rfl) ⟨by decide, by decide⟩ dX11_isAllowed_13 (fun H locs S => ?_)
  refine lv_if_ne (tgt := 23) hx hb dX11_isAllowed_16 (by decide) (fun c5 => ?_) (fun c5 => ?_)
  · have h := it_n c5 h
    refine lv_iconst (v := (0 : Int32)) hx hb dX11_isAllowed_23 (by decide) ?_
    exact x_zret C S hr (by decide) h dX11_isAllowed_24
  · have h := it_p c5 h
    refine lv_iconst (v := (1 : Int32)) hx hb dX11_isAllowed_19 (by decide) ?_
    refine lv_goto (tgt := 24) hx hb dX11_isAllowed_20 (by decide) ?_
    exact x_zret C S hr (by decide) h dX11_isAllowed_24
theorem dX11_startsWithReason_0 : decode cX11_startsWithReason 0 = .ok (.iconst 0, 1) := by decide +kernel
theorem dX11_startsWithReason_1 : decode cX11_startsWithReason 1 = .ok (.istore_n 3, 1) := by decide +kernel
theorem dX11_startsWithReason_2 : decode cX11_startsWithReason 2 = .ok (.aload_n 0, 1) := by decide +kernel
theorem dX11_startsWithReason_3 : decode cX11_startsWithReason 3 = .ok (.getfield 61, 3) := by decide +kernel
theorem dX11_startsWithReason_6 : decode cX11_startsWithReason 6 = .ok (.invokevirtual 121, 3) := by decide +kernel
theorem dX11_startsWithReason_9 : decode cX11_startsWithReason 9 = .ok (.istore 4, 2) := by decide +kernel
theorem dX11_startsWithReason_11 : decode cX11_startsWithReason 11 = .ok (.iconst 0, 1) := by decide +kernel
theorem dX11_startsWithReason_12 : decode cX11_startsWithReason 12 = .ok (.istore 5, 2) := by decide +kernel
theorem dX11_startsWithReason_14 : decode cX11_startsWithReason 14 = .ok (.iload 5, 2) := by decide +kernel
theorem dX11_startsWithReason_16 : decode cX11_startsWithReason 16 = .ok (.iload 4, 2) := by decide +kernel
theorem dX11_startsWithReason_18 : decode cX11_startsWithReason 18 = .ok (.if_icmp .ge 40, 3) := by decide +kernel
theorem dX11_startsWithReason_21 : decode cX11_startsWithReason 21 = .ok (.aload_n 0, 1) := by decide +kernel
theorem dX11_startsWithReason_22 : decode cX11_startsWithReason 22 = .ok (.getfield 61, 3) := by decide +kernel
theorem dX11_startsWithReason_25 : decode cX11_startsWithReason 25 = .ok (.iload_n 1, 1) := by decide +kernel
theorem dX11_startsWithReason_26 : decode cX11_startsWithReason 26 = .ok (.aload_n 0, 1) := by decide +kernel
theorem dX11_startsWithReason_27 : decode cX11_startsWithReason 27 = .ok (.getfield 61, 3) := by decide +kernel
theorem dX11_startsWithReason_30 : decode cX11_startsWithReason 30 = .ok (.iload 5, 2) := by decide +kernel
theorem dX11_startsWithReason_32 : decode cX11_startsWithReason 32 = .ok (.invokevirtual 239, 3) := by decide +kernel
theorem dX11_startsWithReason_35 : decode cX11_startsWithReason 35 = .ok (.aload_n 0, 1) := by decide +kernel
theorem dX11_startsWithReason_36 : decode cX11_startsWithReason 36 = .ok (.getfield 61, 3) := by decide +kernel
theorem dX11_startsWithReason_39 : decode cX11_startsWithReason 39 = .ok (.getfield 228, 3) := by decide +kernel
theorem dX11_startsWithReason_42 : decode cX11_startsWithReason 42 = .ok (.invokevirtual 235, 3) := by decide +kernel
theorem dX11_startsWithReason_45 : decode cX11_startsWithReason 45 = .ok (.iload_n 2, 1) := by decide +kernel
theorem dX11_startsWithReason_46 : decode cX11_startsWithReason 46 = .ok (.if_icmp .ne 6, 3) := by decide +kernel
theorem dX11_startsWithReason_49 : decode cX11_startsWithReason 49 = .ok (.iinc 3 1, 3) := by decide +kernel
theorem dX11_startsWithReason_52 : decode cX11_startsWithReason 52 = .ok (.iinc 5 1, 3) := by decide +kernel
theorem dX11_startsWithReason_55 : decode cX11_startsWithReason 55 = .ok (.goto (-41), 3) := by decide +kernel
theorem dX11_startsWithReason_58 : decode cX11_startsWithReason 58 = .ok (.iload_n 3, 1) := by decide +kernel
theorem dX11_startsWithReason_59 : decode cX11_startsWithReason 59 = .ok (.ireturn, 1) := by decide +kernel
def f_X11_startsWithReason_52 (N : Nat) (R : Nat → Nat → Nat) (k14 : SI → Nat → Int32 → Int32 → Int32 → Int32 → Int32 → Option (Int32 × SI)) (σ : SI) (x0 : Nat) (x1 : Int32) (x2 : Int32) (x3 : Int32) (x4 : Int32) (x5 : Int32) : Option (Int32 × SI) := k14 σ x0 x1 x2 x3 x4 (x5 + 1)
def f_X11_startsWithReason_14 (N : Nat) (R : Nat → Nat → Nat) : Nat → SI → Nat → Int32 → Int32 → Int32 → Int32 → Int32 → Option (Int32 × SI)
  | 0, _, _, _, _, _, _, _ => none
  | n + 1, σ, x0, x1, x2, x3, x4, x5 => if x4 ≤ x5 then (some (x3, σ)) else (bd (f_X9_startAt N R σ (R x0 8) x5) (fun a6 σ6 => bd (f_X9_reasonAgainst N R σ6 (R x0 8) x1 a6 (R (R x0 8) 6)) (fun a9 σ9 => if a9 = x2 then (f_X11_startsWithReason_52 N R (fun σ x0 x1 x2 x3 x4 x5 => f_X11_startsWithReason_14 N R n σ x0 x1 x2 x3 x4 x5) σ9 x0 x1 x2 (x3 + 1) x4 x5) else (f_X11_startsWithReason_52 N R (fun σ x0 x1 x2 x3 x4 x5 => f_X11_startsWithReason_14 N R n σ x0 x1 x2 x3 x4 x5) σ9 x0 x1 x2 x3 x4 x5))))
def f_X11_startsWithReason (N : Nat) (R : Nat → Nat → Nat) (σ : SI) (x0 : Nat) (x1 : Int32) (x2 : Int32) : Option (Int32 × SI) := bd (f_X9_startTotal N R σ (R x0 8)) (fun a2 σ2 => f_X11_startsWithReason_14 N R N σ2 x0 x1 x2 (0 : Int32) a2 (0 : Int32))
set_option maxHeartbeats 4000000 in
set_option maxRecDepth 100000 in
theorem w_X11_startsWithReason_52 {l : Launch} {g : GL} {p : Program} {e : Jvm.Env} {s : State} {m : MethodId} {args : Array Value} {below : List Frame} {meth : Method} {c : Code} {R : Nat → Nat → Nat} {L : Nat → Nat → Int64} {r : (Int32 × SI)} {N : Nat} {k14 : SI → Nat → Int32 → Int32 → Int32 → Int32 → Int32 → Option (Int32 × SI)} (C : Cx l g p s m meth c cX11_startsWithReason 6 RX11) (hr : meth.sig.returnType = (some .int)) (hSh : ShR R) (hk14 : ∀ (σ : SI) (x0 : Nat) (x1 : Int32) (x2 : Int32) (x3 : Int32) (x4 : Int32) (x5 : Int32), k14 σ x0 x1 x2 x3 x4 x5 = some r → Ok 194 x0 11 → ∀ (H : Heap) (locs : List Loc) (ls : Array Slot), S2 g s σ R L H locs → lv_has ls 6 [(0, .ref (gb g + x0)), (1, .int x1), (2, .int x2), (3, .int x3), (4, .int x4), (5, .int x5)] → W p l e (rmd 4 0 0) s m args below meth c H locs 0 0 (MQ below (Qg g 194 (PI R L r)) args s 0 0 (gA g)) (F0 m 14 ls [])) : ∀ (σ : SI) (x0 : Nat) (x1 : Int32) (x2 : Int32) (x3 : Int32) (x4 : Int32) (x5 : Int32), f_X11_startsWithReason_52 N R k14 σ x0 x1 x2 x3 x4 x5 = some r → Ok 194 x0 11 → ∀ (H : Heap) (locs : List Loc) (ls : Array Slot), S2 g s σ R L H locs → lv_has ls 6 [(0, .ref (gb g + x0)), (1, .int x1), (2, .int x2), (3, .int x3), (4, .int x4), (5, .int x5)] → W p l e (rmd 4 0 0) s m args below meth c H locs 0 0 (MQ below (Qg g 194 (PI R L r)) args s 0 0 (gA g)) (F0 m 52 ls []) := by
  have hx := C.1
  have hb := C.2.1
  intro σ x0 x1 x2 x3 x4 x5 h hx0 H locs ls S hl
  rw [f_X11_startsWithReason_52] at h
  refine lv_iinc (v := x5 + 1) (lv' := [(5, .int (x5 + 1)), (0, .ref (gb g + x0)), (1, .int x1), (2, .int x2), (3, .int x3), (4, .int x4)]) hx hb dX11_startsWithReason_52 hl (k := 5) rfl rfl (by decide) rfl (fun ls hl => ?_)
  refine lv_goto (tgt := 14) hx hb dX11_startsWithReason_55 (by decide) ?_
  exact hk14 σ x0 x1 x2 x3 x4 (x5 + 1) h hx0 H locs ls S (lv_sub hl [1, 2, 3, 4, 5, 0] rfl)
set_option maxHeartbeats 4000000 in
set_option maxRecDepth 100000 in
theorem w_X11_startsWithReason_14 {l : Launch} {g : GL} {p : Program} {e : Jvm.Env} {s : State} {m : MethodId} {args : Array Value} {below : List Frame} {meth : Method} {c : Code} {R : Nat → Nat → Nat} {L : Nat → Nat → Int64} {r : (Int32 × SI)} {N : Nat} (C : Cx l g p s m meth c cX11_startsWithReason 6 RX11) (hr : meth.sig.returnType = (some .int)) (hSh : ShR R) : ∀ (n : Nat) (σ : SI) (x0 : Nat) (x1 : Int32) (x2 : Int32) (x3 : Int32) (x4 : Int32) (x5 : Int32), f_X11_startsWithReason_14 N R n σ x0 x1 x2 x3 x4 x5 = some r → Ok 194 x0 11 → ∀ (H : Heap) (locs : List Loc) (ls : Array Slot), S2 g s σ R L H locs → lv_has ls 6 [(0, .ref (gb g + x0)), (1, .int x1), (2, .int x2), (3, .int x3), (4, .int x4), (5, .int x5)] → W p l e (rmd 4 0 0) s m args below meth c H locs 0 0 (MQ below (Qg g 194 (PI R L r)) args s 0 0 (gA g)) (F0 m 14 ls []) := by
  have hx := C.1
  have hb := C.2.1
  intro n
  induction n with
  | zero =>
    intro σ x0 x1 x2 x3 x4 x5 h
    cases (show (none : Option (Int32 × SI)) = some r from h)
  | succ n ih =>
    intro σ x0 x1 x2 x3 x4 x5 h hx0 H locs ls S hl
    rw [f_X11_startsWithReason_14] at h
    refine lv_iload hx hb dX11_startsWithReason_14 (lv_at hl 5 rfl) ?_
    refine lv_iload hx hb dX11_startsWithReason_16 (lv_at hl 4 rfl) ?_
    refine lv_icmp_ge (tgt := 58) hx hb dX11_startsWithReason_18 (by decide) (fun c3 => ?_) (fun c3 => ?_)
    · have h := it_p c3 h
      refine lv_iload_n hx hb dX11_startsWithReason_58 rfl (lv_at hl 3 rfl) ?_
      exact x_iret C S hr h dX11_startsWithReason_59
    · have h := it_n c3 h
      refine lv_aload_n hx hb dX11_startsWithReason_21 rfl (lv_at hl 0 rfl) ?_
      have hR4 : Ok 194 (R x0 8) 9 := hSh x0 11 8 9 hx0.1 rfl
      refine x_getR C S KX11 hx0 8 (by decide) rfl rfl fl_RX11_61 hR4 dX11_startsWithReason_22 ?_
      refine lv_iload_n hx hb dX11_startsWithReason_25 rfl (lv_at hl 1 rfl) ?_
      refine lv_aload_n hx hb dX11_startsWithReason_26 rfl (lv_at hl 0 rfl) ?_
      have hR5 : Ok 194 (R x0 8) 9 := hSh x0 11 8 9 hx0.1 rfl
      refine x_getR C S KX11 hx0 8 (by decide) rfl rfl fl_RX11_61 hR5 dX11_startsWithReason_27 ?_
      refine lv_iload hx hb dX11_startsWithReason_30 (lv_at hl 5 rfl) ?_
      obtain ⟨a6, σ6, hc6, h⟩ := bd_el h
      refine x_callVI C S KX9 hR5 (ok_X9_startAt (L := L) hc6 hSh hR5) ⟨cd_X9_startAt, ni_RX9, ml_RX11_239, in_X9_startAt, sl_X9_startAt⟩ ⟨by decide, by decide⟩ rfl ⟨by decide, by decide⟩ hl.1 rfl (Nat.le_of_ble_eq_true rfl) ⟨by decide, by decide⟩ dX11_startsWithReason_32 (fun H locs S => ?_)
      refine lv_aload_n hx hb dX11_startsWithReason_35 rfl (lv_at hl 0 rfl) ?_
      have hR7 : Ok 194 (R x0 8) 9 := hSh x0 11 8 9 hx0.1 rfl
      refine x_getR C S KX11 hx0 8 (by decide) rfl rfl fl_RX11_61 hR7 dX11_startsWithReason_36 ?_
      have hR8 : Ok 194 (R (R x0 8) 6) 10006 := hSh (R x0 8) 9 6 10006 hR7.1 rfl
      refine x_getR C S KX9 hR7 6 (by decide) rfl rfl fl_RX11_228 hR8 dX11_startsWithReason_39 ?_
      obtain ⟨a9, σ9, hc9, h⟩ := bd_el h
      refine x_callVI C S KX9 hR4 (ok_X9_reasonAgainst (L := L) hc9 hSh hR4 hR8) ⟨cd_X9_reasonAgainst, ni_RX9, ml_RX11_235, in_X9_reasonAgainst, sl_X9_reasonAgainst⟩ ⟨by decide, by decide⟩ rfl ⟨by decide, by decide⟩ hl.1 rfl (Nat.le_of_ble_eq_true rfl) ⟨by decide, by decide⟩ dX11_startsWithReason_42 (fun H locs S => ?_)
      refine lv_iload_n hx hb dX11_startsWithReason_45 rfl (lv_at hl 2 rfl) ?_
      refine lv_icmp_ne (tgt := 52) hx hb dX11_startsWithReason_46 (by decide) (fun c10 => ?_) (fun c10 => ?_)
      · have h := it_n c10 h
        exact w_X11_startsWithReason_52 C hr hSh ih σ9 x0 x1 x2 x3 x4 x5 h hx0 H locs ls S (lv_sub hl [0, 1, 2, 3, 4, 5] rfl)
      · have h := it_p c10 h
        refine lv_iinc (v := x3 + 1) (lv' := [(3, .int (x3 + 1)), (0, .ref (gb g + x0)), (1, .int x1), (2, .int x2), (4, .int x4), (5, .int x5)]) hx hb dX11_startsWithReason_49 hl (k := 3) rfl rfl (by decide) rfl (fun ls hl => ?_)
        exact w_X11_startsWithReason_52 C hr hSh ih σ9 x0 x1 x2 (x3 + 1) x4 x5 h hx0 H locs ls S (lv_sub hl [1, 2, 3, 0, 4, 5] rfl)
set_option maxHeartbeats 4000000 in
set_option maxRecDepth 100000 in
theorem ok_X11_startsWithReason {l : Launch} {g : GL} {R : Nat → Nat → Nat} {L : Nat → Nat → Int64} {N : Nat} {σ : SI} {x0 : Nat} {x1 : Int32} {x2 : Int32} {r : (Int32 × SI)} (h : f_X11_startsWithReason N R σ x0 x1 x2 = some r) (hSh : ShR R) (hx0 : Ok 194 x0 11) : Ct l g 4 yX11_startsWithReason cX11_startsWithReason 6 (some .int) 194 194 0 0 [.ref (gb g + x0), .int x1, .int x2] (mkS σ R L) (PI R L r) := by
  refine Met.ofW (cc := cX11_startsWithReason) (maxL := 6) (ret := (some .int)) (by decide) rfl ?_
  intro p e s m args below meth c s₁ B hml hv
  obtain ⟨rfl, hE, hLo, hWd⟩ := hv
  have hr : meth.sig.returnType = (some .int) := B.returns
  have C : Cx l g p s m meth c cX11_startsWithReason 6 RX11 := ⟨B.exec, B.bytes, hml, findClass_of_methodNamed B.named, hE, hLo, B.notSynchronized⟩
  have S : S2 g s σ R L s.heap [] := ⟨hWd, va_S.rf⟩
  have hx := C.1
  have hb := C.2.1
  have hl := lv_entry ([.ref (gb g + x0), .int x1, .int x2]) (n := 6) (Nat.le_of_ble_eq_true rfl)
  rw [lg_entry_eq]
  generalize (lg_sl ([.ref (gb g + x0), .int x1, .int x2]) ++ List.replicate (6 - (lg_sl ([.ref (gb g + x0), .int x1, .int x2])).length) Slot.unset).toArray = ls at hl ⊢
  have hl : lv_has ls 6 [(0, .ref (gb g + x0)), (1, .int x1), (2, .int x2)] := hl
  generalize hH : s.heap = H at S ⊢
  generalize hlc : ([] : List Loc) = locs at S ⊢
  rw [f_X11_startsWithReason] at h
  refine lv_iconst (v := (0 : Int32)) hx hb dX11_startsWithReason_0 (by decide) ?_
  refine lv_istore_n (lv' := [(3, .int (0 : Int32)), (0, .ref (gb g + x0)), (1, .int x1), (2, .int x2)]) hx hb dX11_startsWithReason_1 rfl hl (by decide) rfl (fun ls hl => ?_)
  refine lv_aload_n hx hb dX11_startsWithReason_2 rfl (lv_at hl 1 rfl) ?_
  have hR1 : Ok 194 (R x0 8) 9 := hSh x0 11 8 9 hx0.1 rfl
  refine x_getR C S KX11 hx0 8 (by decide) rfl rfl fl_RX11_61 hR1 dX11_startsWithReason_3 ?_
  obtain ⟨a2, σ2, hc2, h⟩ := bd_el h
  refine x_callVI C S KX9 hR1 (ok_X9_startTotal (L := L) hc2 hSh hR1) ⟨cd_X9_startTotal, ni_RX9, ml_RX11_121, in_X9_startTotal, sl_X9_startTotal⟩ ⟨by decide, by decide⟩ rfl ⟨by decide, by decide⟩ hl.1 rfl (Nat.le_of_ble_eq_true rfl) ⟨by decide, by decide⟩ dX11_startsWithReason_6 (fun H locs S => ?_)
  refine lv_istore (lv' := [(4, .int a2), (3, .int (0 : Int32)), (0, .ref (gb g + x0)), (1, .int x1), (2, .int x2)]) hx hb dX11_startsWithReason_9 hl (by decide) rfl (fun ls hl => ?_)
  refine lv_iconst (v := (0 : Int32)) hx hb dX11_startsWithReason_11 (by decide) ?_
  refine lv_istore (lv' := [(5, .int (0 : Int32)), (4, .int a2), (3, .int (0 : Int32)), (0, .ref (gb g + x0)), (1, .int x1), (2, .int x2)]) hx hb dX11_startsWithReason_12 hl (by decide) rfl (fun ls hl => ?_)
  exact w_X11_startsWithReason_14 C hr hSh N σ2 x0 x1 x2 (0 : Int32) a2 (0 : Int32) h hx0 H locs ls S (lv_sub hl [3, 4, 5, 2, 1, 0] rfl)
theorem dX11_sumHours_0 : decode cX11_sumHours 0 = .ok (.iconst 0, 1) := by decide +kernel
theorem dX11_sumHours_1 : decode cX11_sumHours 1 = .ok (.istore_n 1, 1) := by decide +kernel
theorem dX11_sumHours_2 : decode cX11_sumHours 2 = .ok (.iload_n 1, 1) := by decide +kernel
theorem dX11_sumHours_3 : decode cX11_sumHours 3 = .ok (.bipush 24, 2) := by decide +kernel
theorem dX11_sumHours_5 : decode cX11_sumHours 5 = .ok (.if_icmp .ge 16, 3) := by decide +kernel
theorem dX11_sumHours_8 : decode cX11_sumHours 8 = .ok (.aload_n 0, 1) := by decide +kernel
theorem dX11_sumHours_9 : decode cX11_sumHours 9 = .ok (.getfield 54, 3) := by decide +kernel
theorem dX11_sumHours_12 : decode cX11_sumHours 12 = .ok (.iload_n 1, 1) := by decide +kernel
theorem dX11_sumHours_13 : decode cX11_sumHours 13 = .ok (.iconst 0, 1) := by decide +kernel
theorem dX11_sumHours_14 : decode cX11_sumHours 14 = .ok (.iastore, 1) := by decide +kernel
theorem dX11_sumHours_15 : decode cX11_sumHours 15 = .ok (.iinc 1 1, 3) := by decide +kernel
theorem dX11_sumHours_18 : decode cX11_sumHours 18 = .ok (.goto (-16), 3) := by decide +kernel
theorem dX11_sumHours_21 : decode cX11_sumHours 21 = .ok (.iconst 0, 1) := by decide +kernel
theorem dX11_sumHours_22 : decode cX11_sumHours 22 = .ok (.istore_n 1, 1) := by decide +kernel
theorem dX11_sumHours_23 : decode cX11_sumHours 23 = .ok (.iload_n 1, 1) := by decide +kernel
theorem dX11_sumHours_24 : decode cX11_sumHours 24 = .ok (.aload_n 0, 1) := by decide +kernel
theorem dX11_sumHours_25 : decode cX11_sumHours 25 = .ok (.getfield 61, 3) := by decide +kernel
theorem dX11_sumHours_28 : decode cX11_sumHours 28 = .ok (.getfield 118, 3) := by decide +kernel
theorem dX11_sumHours_31 : decode cX11_sumHours 31 = .ok (.if_icmp .ge 62, 3) := by decide +kernel
theorem dX11_sumHours_34 : decode cX11_sumHours 34 = .ok (.aload_n 0, 1) := by decide +kernel
theorem dX11_sumHours_35 : decode cX11_sumHours 35 = .ok (.getfield 61, 3) := by decide +kernel
theorem dX11_sumHours_38 : decode cX11_sumHours 38 = .ok (.iload_n 1, 1) := by decide +kernel
theorem dX11_sumHours_39 : decode cX11_sumHours 39 = .ok (.aload_n 0, 1) := by decide +kernel
theorem dX11_sumHours_40 : decode cX11_sumHours 40 = .ok (.getfield 47, 3) := by decide +kernel
theorem dX11_sumHours_43 : decode cX11_sumHours 43 = .ok (.invokevirtual 279, 3) := by decide +kernel
theorem dX11_sumHours_46 : decode cX11_sumHours 46 = .ok (.iconst 0, 1) := by decide +kernel
theorem dX11_sumHours_47 : decode cX11_sumHours 47 = .ok (.istore_n 2, 1) := by decide +kernel
theorem dX11_sumHours_48 : decode cX11_sumHours 48 = .ok (.iload_n 2, 1) := by decide +kernel
theorem dX11_sumHours_49 : decode cX11_sumHours 49 = .ok (.bipush 24, 2) := by decide +kernel
theorem dX11_sumHours_51 : decode cX11_sumHours 51 = .ok (.if_icmp .ge 36, 3) := by decide +kernel
theorem dX11_sumHours_54 : decode cX11_sumHours 54 = .ok (.aload_n 0, 1) := by decide +kernel
theorem dX11_sumHours_55 : decode cX11_sumHours 55 = .ok (.getfield 54, 3) := by decide +kernel
theorem dX11_sumHours_58 : decode cX11_sumHours 58 = .ok (.iload_n 2, 1) := by decide +kernel
theorem dX11_sumHours_59 : decode cX11_sumHours 59 = .ok (.dup2, 1) := by decide +kernel
theorem dX11_sumHours_60 : decode cX11_sumHours 60 = .ok (.iaload, 1) := by decide +kernel
theorem dX11_sumHours_61 : decode cX11_sumHours 61 = .ok (.aload_n 0, 1) := by decide +kernel
theorem dX11_sumHours_62 : decode cX11_sumHours 62 = .ok (.getfield 47, 3) := by decide +kernel
theorem dX11_sumHours_65 : decode cX11_sumHours 65 = .ok (.iload_n 2, 1) := by decide +kernel
theorem dX11_sumHours_66 : decode cX11_sumHours 66 = .ok (.bipush 60, 2) := by decide +kernel
theorem dX11_sumHours_68 : decode cX11_sumHours 68 = .ok (.imul, 1) := by decide +kernel
theorem dX11_sumHours_69 : decode cX11_sumHours 69 = .ok (.iload_n 2, 1) := by decide +kernel
theorem dX11_sumHours_70 : decode cX11_sumHours 70 = .ok (.bipush 60, 2) := by decide +kernel
theorem dX11_sumHours_72 : decode cX11_sumHours 72 = .ok (.imul, 1) := by decide +kernel
theorem dX11_sumHours_73 : decode cX11_sumHours 73 = .ok (.bipush 60, 2) := by decide +kernel
theorem dX11_sumHours_75 : decode cX11_sumHours 75 = .ok (.iadd, 1) := by decide +kernel
theorem dX11_sumHours_76 : decode cX11_sumHours 76 = .ok (.invokevirtual 299, 3) := by decide +kernel
theorem dX11_sumHours_79 : decode cX11_sumHours 79 = .ok (.iadd, 1) := by decide +kernel
theorem dX11_sumHours_80 : decode cX11_sumHours 80 = .ok (.iastore, 1) := by decide +kernel
theorem dX11_sumHours_81 : decode cX11_sumHours 81 = .ok (.iinc 2 1, 3) := by decide +kernel
theorem dX11_sumHours_84 : decode cX11_sumHours 84 = .ok (.goto (-36), 3) := by decide +kernel
theorem dX11_sumHours_87 : decode cX11_sumHours 87 = .ok (.iinc 1 1, 3) := by decide +kernel
theorem dX11_sumHours_90 : decode cX11_sumHours 90 = .ok (.goto (-67), 3) := by decide +kernel
theorem dX11_sumHours_93 : decode cX11_sumHours 93 = .ok (.return_, 1) := by decide +kernel
def f_X11_sumHours_48 (N : Nat) (R : Nat → Nat → Nat) (k23 : SI → Nat → Int32 → Option (Unit × SI)) : Nat → SI → Nat → Int32 → Int32 → Option (Unit × SI)
  | 0, _, _, _, _ => none
  | n + 1, σ, x0, x1, x2 => if (24 : Int32) ≤ x2 then (k23 σ x0 (x1 + 1)) else (ck x2 24 (bd (f_X3_sizeWithin N R σ (R x0 5) (x2 * (60 : Int32)) ((x2 * (60 : Int32)) + (60 : Int32))) (fun a11 σ11 => ck x2 24 (sq (up σ11 (R x0 7) x2.toNatClampNeg ((σ (R x0 7) x2.toNatClampNeg) + a11)) (fun σ13 => f_X11_sumHours_48 N R k23 n σ13 x0 x1 (x2 + 1))))))
def f_X11_sumHours_23 (N : Nat) (R : Nat → Nat → Nat) : Nat → SI → Nat → Int32 → Option (Unit × SI)
  | 0, _, _, _ => none
  | n + 1, σ, x0, x1 => if (σ (R x0 8) 10) ≤ x1 then (some ((), σ)) else (bd (f_X9_collectClosed N R σ (R x0 8) x1 (R x0 5)) (fun _ σ6 => f_X11_sumHours_48 N R (fun σ x0 x1 => f_X11_sumHours_23 N R n σ x0 x1) N σ6 x0 x1 (0 : Int32)))
def f_X11_sumHours_2 (N : Nat) (R : Nat → Nat → Nat) : Nat → SI → Nat → Int32 → Option (Unit × SI)
  | 0, _, _, _ => none
  | n + 1, σ, x0, x1 => if (24 : Int32) ≤ x1 then (f_X11_sumHours_23 N R N σ x0 (0 : Int32)) else (ck x1 24 (sq (up σ (R x0 7) x1.toNatClampNeg (0 : Int32)) (fun σ16 => f_X11_sumHours_2 N R n σ16 x0 (x1 + 1))))
def f_X11_sumHours (N : Nat) (R : Nat → Nat → Nat) (σ : SI) (x0 : Nat) : Option (Unit × SI) := f_X11_sumHours_2 N R N σ x0 (0 : Int32)
set_option maxHeartbeats 4000000 in
set_option maxRecDepth 100000 in
theorem w_X11_sumHours_48 {l : Launch} {g : GL} {p : Program} {e : Jvm.Env} {s : State} {m : MethodId} {args : Array Value} {below : List Frame} {meth : Method} {c : Code} {R : Nat → Nat → Nat} {L : Nat → Nat → Int64} {r : (Unit × SI)} {N : Nat} {k23 : SI → Nat → Int32 → Option (Unit × SI)} (C : Cx l g p s m meth c cX11_sumHours 3 RX11) (hr : meth.sig.returnType = none) (hSh : ShR R) (hk23 : ∀ (σ : SI) (x0 : Nat) (x1 : Int32), k23 σ x0 x1 = some r → Ok 194 x0 11 → ∀ (H : Heap) (locs : List Loc) (ls : Array Slot), S2 g s σ R L H locs → lv_has ls 3 [(0, .ref (gb g + x0)), (1, .int x1)] → W p l e (rmd 4 0 0) s m args below meth c H locs 0 0 (MQ below (Qg g 194 (PV R L r)) args s 0 0 (gA g)) (F0 m 23 ls [])) : ∀ (n : Nat) (σ : SI) (x0 : Nat) (x1 : Int32) (x2 : Int32), f_X11_sumHours_48 N R k23 n σ x0 x1 x2 = some r → Ok 194 x0 11 → ∀ (H : Heap) (locs : List Loc) (ls : Array Slot), S2 g s σ R L H locs → lv_has ls 3 [(0, .ref (gb g + x0)), (1, .int x1), (2, .int x2)] → W p l e (rmd 4 0 0) s m args below meth c H locs 0 0 (MQ below (Qg g 194 (PV R L r)) args s 0 0 (gA g)) (F0 m 48 ls []) := by
  have hx := C.1
  have hb := C.2.1
  intro n
  induction n with
  | zero =>
    intro σ x0 x1 x2 h
    cases (show (none : Option (Unit × SI)) = some r from h)
  | succ n ih =>
    intro σ x0 x1 x2 h hx0 H locs ls S hl
    rw [f_X11_sumHours_48] at h
    refine lv_iload_n hx hb dX11_sumHours_48 rfl (lv_at hl 2 rfl) ?_
    refine lv_bipush (v := (24 : Int32)) hx hb dX11_sumHours_49 (by decide) ?_
    refine lv_icmp_ge (tgt := 87) hx hb dX11_sumHours_51 (by decide) (fun c7 => ?_) (fun c7 => ?_)
    · have h := it_p c7 h
      refine lv_iinc (v := x1 + 1) (lv' := [(1, .int (x1 + 1)), (0, .ref (gb g + x0)), (2, .int x2)]) hx hb dX11_sumHours_87 hl (k := 1) rfl rfl (by decide) rfl (fun ls hl => ?_)
      refine lv_goto (tgt := 23) hx hb dX11_sumHours_90 (by decide) ?_
      exact hk23 σ x0 (x1 + 1) h hx0 H locs ls S (lv_sub hl [1, 0] rfl)
    · have h := it_n c7 h
      refine lv_aload_n hx hb dX11_sumHours_54 rfl (lv_at hl 0 rfl) ?_
      have hR8 : Ok 194 (R x0 7) 10024 := hSh x0 11 7 10024 hx0.1 rfl
      refine x_getR C S KX11 hx0 7 (by decide) rfl rfl fl_RX11_54 hR8 dX11_sumHours_55 ?_
      refine lv_iload_n hx hb dX11_sumHours_58 rfl (lv_at hl 2 rfl) ?_
      refine lv_dup2_11 hx hb dX11_sumHours_59 rfl rfl ?_
      obtain ⟨hi9, h⟩ := ck_el h
      refine x_iald (len := 24) C S (by decide) hR8 hi9 dX11_sumHours_60 ?_
      refine lv_aload_n hx hb dX11_sumHours_61 rfl (lv_at hl 0 rfl) ?_
      have hR10 : Ok 194 (R x0 5) 3 := hSh x0 11 5 3 hx0.1 rfl
      refine x_getR C S KX11 hx0 5 (by decide) rfl rfl fl_RX11_47 hR10 dX11_sumHours_62 ?_
      refine lv_iload_n hx hb dX11_sumHours_65 rfl (lv_at hl 2 rfl) ?_
      refine lv_bipush (v := (60 : Int32)) hx hb dX11_sumHours_66 (by decide) ?_
      refine lv_imul hx hb dX11_sumHours_68 ?_
      refine lv_iload_n hx hb dX11_sumHours_69 rfl (lv_at hl 2 rfl) ?_
      refine lv_bipush (v := (60 : Int32)) hx hb dX11_sumHours_70 (by decide) ?_
      refine lv_imul hx hb dX11_sumHours_72 ?_
      refine lv_bipush (v := (60 : Int32)) hx hb dX11_sumHours_73 (by decide) ?_
      refine lv_iadd hx hb dX11_sumHours_75 ?_
      obtain ⟨a11, σ11, hc11, h⟩ := bd_el h
      refine x_callVI C S KX3 hR10 (ok_X3_sizeWithin (L := L) hc11 hSh hR10) ⟨cd_X3_sizeWithin, ni_RX3, ml_RX11_299, in_X3_sizeWithin, sl_X3_sizeWithin⟩ ⟨by decide, by decide⟩ rfl ⟨by decide, by decide⟩ hl.1 rfl (Nat.le_of_ble_eq_true rfl) ⟨by decide, by decide⟩ dX11_sumHours_76 (fun H locs S => ?_)
      refine lv_iadd hx hb dX11_sumHours_79 ?_
      obtain ⟨hi12, h⟩ := ck_el h
      obtain ⟨σ13, hs13, h⟩ := sq_el h
      refine x_iast (len := 24) C S (by decide) hR8 hi12 dX11_sumHours_80 hs13 (fun H locs S => ?_)
      refine lv_iinc (v := x2 + 1) (lv' := [(2, .int (x2 + 1)), (0, .ref (gb g + x0)), (1, .int x1)]) hx hb dX11_sumHours_81 hl (k := 2) rfl rfl (by decide) rfl (fun ls hl => ?_)
      refine lv_goto (tgt := 48) hx hb dX11_sumHours_84 (by decide) ?_
      exact ih σ13 x0 x1 (x2 + 1) h hx0 H locs ls S (lv_sub hl [1, 2, 0] rfl)
set_option maxHeartbeats 4000000 in
set_option maxRecDepth 100000 in
theorem w_X11_sumHours_23 {l : Launch} {g : GL} {p : Program} {e : Jvm.Env} {s : State} {m : MethodId} {args : Array Value} {below : List Frame} {meth : Method} {c : Code} {R : Nat → Nat → Nat} {L : Nat → Nat → Int64} {r : (Unit × SI)} {N : Nat} (C : Cx l g p s m meth c cX11_sumHours 3 RX11) (hr : meth.sig.returnType = none) (hSh : ShR R) : ∀ (n : Nat) (σ : SI) (x0 : Nat) (x1 : Int32), f_X11_sumHours_23 N R n σ x0 x1 = some r → Ok 194 x0 11 → ∀ (H : Heap) (locs : List Loc) (ls : Array Slot), S2 g s σ R L H locs → lv_has ls 3 [(0, .ref (gb g + x0)), (1, .int x1)] → W p l e (rmd 4 0 0) s m args below meth c H locs 0 0 (MQ below (Qg g 194 (PV R L r)) args s 0 0 (gA g)) (F0 m 23 ls []) := by
  have hx := C.1
  have hb := C.2.1
  intro n
  induction n with
  | zero =>
    intro σ x0 x1 h
    cases (show (none : Option (Unit × SI)) = some r from h)
  | succ n ih =>
    intro σ x0 x1 h hx0 H locs ls S hl
    rw [f_X11_sumHours_23] at h
    refine lv_iload_n hx hb dX11_sumHours_23 rfl (lv_at hl 1 rfl) ?_
    refine lv_aload_n hx hb dX11_sumHours_24 rfl (lv_at hl 0 rfl) ?_
    have hR2 : Ok 194 (R x0 8) 9 := hSh x0 11 8 9 hx0.1 rfl
    refine x_getR C S KX11 hx0 8 (by decide) rfl rfl fl_RX11_61 hR2 dX11_sumHours_25 ?_
    refine x_getI C S KX9 hR2 10 (by decide) rfl rfl fl_RX11_118 dX11_sumHours_28 ?_
    refine lv_icmp_ge (tgt := 93) hx hb dX11_sumHours_31 (by decide) (fun c3 => ?_) (fun c3 => ?_)
    · have h := it_p c3 h
      exact x_vret C S hr h dX11_sumHours_93
    · have h := it_n c3 h
      refine lv_aload_n hx hb dX11_sumHours_34 rfl (lv_at hl 0 rfl) ?_
      have hR4 : Ok 194 (R x0 8) 9 := hSh x0 11 8 9 hx0.1 rfl
      refine x_getR C S KX11 hx0 8 (by decide) rfl rfl fl_RX11_61 hR4 dX11_sumHours_35 ?_
      refine lv_iload_n hx hb dX11_sumHours_38 rfl (lv_at hl 1 rfl) ?_
      refine lv_aload_n hx hb dX11_sumHours_39 rfl (lv_at hl 0 rfl) ?_
      have hR5 : Ok 194 (R x0 5) 3 := hSh x0 11 5 3 hx0.1 rfl
      refine x_getR C S KX11 hx0 5 (by decide) rfl rfl fl_RX11_47 hR5 dX11_sumHours_40 ?_
      obtain ⟨a6, σ6, hc6, h⟩ := bd_el h
      refine x_callVV C S KX9 hR4 (ok_X9_collectClosed (L := L) hc6 hSh hR4 hR5) ⟨cd_X9_collectClosed, ni_RX9, ml_RX11_279, in_X9_collectClosed, sl_X9_collectClosed⟩ ⟨by decide, by decide⟩ rfl ⟨by decide, by decide⟩ hl.1 rfl (Nat.le_of_ble_eq_true rfl) ⟨by decide, by decide⟩ dX11_sumHours_43 (fun H locs S => ?_)
      refine lv_iconst (v := (0 : Int32)) hx hb dX11_sumHours_46 (by decide) ?_
      refine lv_istore_n (lv' := [(2, .int (0 : Int32)), (0, .ref (gb g + x0)), (1, .int x1)]) hx hb dX11_sumHours_47 rfl hl (by decide) rfl (fun ls hl => ?_)
      exact w_X11_sumHours_48 C hr hSh ih N σ6 x0 x1 (0 : Int32) h hx0 H locs ls S (lv_sub hl [1, 2, 0] rfl)
set_option maxHeartbeats 4000000 in
set_option maxRecDepth 100000 in
theorem w_X11_sumHours_2 {l : Launch} {g : GL} {p : Program} {e : Jvm.Env} {s : State} {m : MethodId} {args : Array Value} {below : List Frame} {meth : Method} {c : Code} {R : Nat → Nat → Nat} {L : Nat → Nat → Int64} {r : (Unit × SI)} {N : Nat} (C : Cx l g p s m meth c cX11_sumHours 3 RX11) (hr : meth.sig.returnType = none) (hSh : ShR R) : ∀ (n : Nat) (σ : SI) (x0 : Nat) (x1 : Int32), f_X11_sumHours_2 N R n σ x0 x1 = some r → Ok 194 x0 11 → ∀ (H : Heap) (locs : List Loc) (ls : Array Slot), S2 g s σ R L H locs → lv_has ls 3 [(0, .ref (gb g + x0)), (1, .int x1)] → W p l e (rmd 4 0 0) s m args below meth c H locs 0 0 (MQ below (Qg g 194 (PV R L r)) args s 0 0 (gA g)) (F0 m 2 ls []) := by
  have hx := C.1
  have hb := C.2.1
  intro n
  induction n with
  | zero =>
    intro σ x0 x1 h
    cases (show (none : Option (Unit × SI)) = some r from h)
  | succ n ih =>
    intro σ x0 x1 h hx0 H locs ls S hl
    rw [f_X11_sumHours_2] at h
    refine lv_iload_n hx hb dX11_sumHours_2 rfl (lv_at hl 1 rfl) ?_
    refine lv_bipush (v := (24 : Int32)) hx hb dX11_sumHours_3 (by decide) ?_
    refine lv_icmp_ge (tgt := 21) hx hb dX11_sumHours_5 (by decide) (fun c1 => ?_) (fun c1 => ?_)
    · have h := it_p c1 h
      refine lv_iconst (v := (0 : Int32)) hx hb dX11_sumHours_21 (by decide) ?_
      refine lv_istore_n (lv' := [(1, .int (0 : Int32)), (0, .ref (gb g + x0))]) hx hb dX11_sumHours_22 rfl hl (by decide) rfl (fun ls hl => ?_)
      exact w_X11_sumHours_23 C hr hSh N σ x0 (0 : Int32) h hx0 H locs ls S (lv_sub hl [1, 0] rfl)
    · have h := it_n c1 h
      refine lv_aload_n hx hb dX11_sumHours_8 rfl (lv_at hl 0 rfl) ?_
      have hR14 : Ok 194 (R x0 7) 10024 := hSh x0 11 7 10024 hx0.1 rfl
      refine x_getR C S KX11 hx0 7 (by decide) rfl rfl fl_RX11_54 hR14 dX11_sumHours_9 ?_
      refine lv_iload_n hx hb dX11_sumHours_12 rfl (lv_at hl 1 rfl) ?_
      refine lv_iconst (v := (0 : Int32)) hx hb dX11_sumHours_13 (by decide) ?_
      obtain ⟨hi15, h⟩ := ck_el h
      obtain ⟨σ16, hs16, h⟩ := sq_el h
      refine x_iast (len := 24) C S (by decide) hR14 hi15 dX11_sumHours_14 hs16 (fun H locs S => ?_)
      refine lv_iinc (v := x1 + 1) (lv' := [(1, .int (x1 + 1)), (0, .ref (gb g + x0))]) hx hb dX11_sumHours_15 hl (k := 1) rfl rfl (by decide) rfl (fun ls hl => ?_)
      refine lv_goto (tgt := 2) hx hb dX11_sumHours_18 (by decide) ?_
      exact ih σ16 x0 (x1 + 1) h hx0 H locs ls S (lv_sub hl [1, 0] rfl)
set_option maxHeartbeats 4000000 in
set_option maxRecDepth 100000 in
theorem ok_X11_sumHours {l : Launch} {g : GL} {R : Nat → Nat → Nat} {L : Nat → Nat → Int64} {N : Nat} {σ : SI} {x0 : Nat} {r : (Unit × SI)} (h : f_X11_sumHours N R σ x0 = some r) (hSh : ShR R) (hx0 : Ok 194 x0 11) : Ct l g 4 yX11_sumHours cX11_sumHours 3 none 194 194 0 0 [.ref (gb g + x0)] (mkS σ R L) (PV R L r) := by
  refine Met.ofW (cc := cX11_sumHours) (maxL := 3) (ret := none) (by decide) rfl ?_
  intro p e s m args below meth c s₁ B hml hv
  obtain ⟨rfl, hE, hLo, hWd⟩ := hv
  have hr : meth.sig.returnType = none := B.returns
  have C : Cx l g p s m meth c cX11_sumHours 3 RX11 := ⟨B.exec, B.bytes, hml, findClass_of_methodNamed B.named, hE, hLo, B.notSynchronized⟩
  have S : S2 g s σ R L s.heap [] := ⟨hWd, va_S.rf⟩
  have hx := C.1
  have hb := C.2.1
  have hl := lv_entry ([.ref (gb g + x0)]) (n := 3) (Nat.le_of_ble_eq_true rfl)
  rw [lg_entry_eq]
  generalize (lg_sl ([.ref (gb g + x0)]) ++ List.replicate (3 - (lg_sl ([.ref (gb g + x0)])).length) Slot.unset).toArray = ls at hl ⊢
  have hl : lv_has ls 3 [(0, .ref (gb g + x0))] := hl
  generalize hH : s.heap = H at S ⊢
  generalize hlc : ([] : List Loc) = locs at S ⊢
  rw [f_X11_sumHours] at h
  refine lv_iconst (v := (0 : Int32)) hx hb dX11_sumHours_0 (by decide) ?_
  refine lv_istore_n (lv' := [(1, .int (0 : Int32)), (0, .ref (gb g + x0))]) hx hb dX11_sumHours_1 rfl hl (by decide) rfl (fun ls hl => ?_)
  exact w_X11_sumHours_2 C hr hSh N σ x0 (0 : Int32) h hx0 H locs ls S (lv_sub hl [1, 0] rfl)
theorem dX5_parseWind_0 : decode cX5_parseWind 0 = .ok (.aload_n 0, 1) := by decide +kernel
theorem dX5_parseWind_1 : decode cX5_parseWind 1 = .ok (.getfield 12, 3) := by decide +kernel
theorem dX5_parseWind_4 : decode cX5_parseWind 4 = .ok (.iconst 0, 1) := by decide +kernel
theorem dX5_parseWind_5 : decode cX5_parseWind 5 = .ok (.bipush 23, 2) := by decide +kernel
theorem dX5_parseWind_7 : decode cX5_parseWind 7 = .ok (.invokevirtual 73, 3) := by decide +kernel
theorem dX5_parseWind_10 : decode cX5_parseWind 10 = .ok (.istore_n 2, 1) := by decide +kernel
theorem dX5_parseWind_11 : decode cX5_parseWind 11 = .ok (.aload_n 0, 1) := by decide +kernel
theorem dX5_parseWind_12 : decode cX5_parseWind 12 = .ok (.getfield 12, 3) := by decide +kernel
theorem dX5_parseWind_15 : decode cX5_parseWind 15 = .ok (.iconst 0, 1) := by decide +kernel
theorem dX5_parseWind_16 : decode cX5_parseWind 16 = .ok (.bipush 7, 2) := by decide +kernel
theorem dX5_parseWind_18 : decode cX5_parseWind 18 = .ok (.invokevirtual 73, 3) := by decide +kernel
theorem dX5_parseWind_21 : decode cX5_parseWind 21 = .ok (.istore_n 3, 1) := by decide +kernel
theorem dX5_parseWind_22 : decode cX5_parseWind 22 = .ok (.aload_n 0, 1) := by decide +kernel
theorem dX5_parseWind_23 : decode cX5_parseWind 23 = .ok (.getfield 12, 3) := by decide +kernel
theorem dX5_parseWind_26 : decode cX5_parseWind 26 = .ok (.iconst 0, 1) := by decide +kernel
theorem dX5_parseWind_27 : decode cX5_parseWind 27 = .ok (.bipush 20, 2) := by decide +kernel
theorem dX5_parseWind_29 : decode cX5_parseWind 29 = .ok (.invokevirtual 73, 3) := by decide +kernel
theorem dX5_parseWind_32 : decode cX5_parseWind 32 = .ok (.istore 4, 2) := by decide +kernel
theorem dX5_parseWind_34 : decode cX5_parseWind 34 = .ok (.aload_n 0, 1) := by decide +kernel
theorem dX5_parseWind_35 : decode cX5_parseWind 35 = .ok (.getfield 12, 3) := by decide +kernel
theorem dX5_parseWind_38 : decode cX5_parseWind 38 = .ok (.invokevirtual 26, 3) := by decide +kernel
theorem dX5_parseWind_41 : decode cX5_parseWind 41 = .ok (.ifCond .ne 28, 3) := by decide +kernel
theorem dX5_parseWind_44 : decode cX5_parseWind 44 = .ok (.iload_n 2, 1) := by decide +kernel
theorem dX5_parseWind_45 : decode cX5_parseWind 45 = .ok (.ifCond .lt 24, 3) := by decide +kernel
theorem dX5_parseWind_48 : decode cX5_parseWind 48 = .ok (.iload_n 2, 1) := by decide +kernel
theorem dX5_parseWind_49 : decode cX5_parseWind 49 = .ok (.bipush 24, 2) := by decide +kernel
theorem dX5_parseWind_51 : decode cX5_parseWind 51 = .ok (.if_icmp .ge 18, 3) := by decide +kernel
theorem dX5_parseWind_54 : decode cX5_parseWind 54 = .ok (.aload_n 1, 1) := by decide +kernel
theorem dX5_parseWind_55 : decode cX5_parseWind 55 = .ok (.getfield 105, 3) := by decide +kernel
theorem dX5_parseWind_58 : decode cX5_parseWind 58 = .ok (.iload_n 2, 1) := by decide +kernel
theorem dX5_parseWind_59 : decode cX5_parseWind 59 = .ok (.iload_n 3, 1) := by decide +kernel
theorem dX5_parseWind_60 : decode cX5_parseWind 60 = .ok (.iastore, 1) := by decide +kernel
theorem dX5_parseWind_61 : decode cX5_parseWind 61 = .ok (.aload_n 1, 1) := by decide +kernel
theorem dX5_parseWind_62 : decode cX5_parseWind 62 = .ok (.getfield 109, 3) := by decide +kernel
theorem dX5_parseWind_65 : decode cX5_parseWind 65 = .ok (.iload_n 2, 1) := by decide +kernel
theorem dX5_parseWind_66 : decode cX5_parseWind 66 = .ok (.iload 4, 2) := by decide +kernel
theorem dX5_parseWind_68 : decode cX5_parseWind 68 = .ok (.iastore, 1) := by decide +kernel
theorem dX5_parseWind_69 : decode cX5_parseWind 69 = .ok (.return_, 1) := by decide +kernel
def f_X5_parseWind (N : Nat) (R : Nat → Nat → Nat) (σ : SI) (x0 : Nat) (x1 : Nat) : Option (Unit × SI) := bd (f_X10_takeNumber N R σ (R x0 0) (0 : Int32) (23 : Int32)) (fun a2 σ2 => bd (f_X10_takeNumber N R σ2 (R x0 0) (0 : Int32) (7 : Int32)) (fun a4 σ4 => bd (f_X10_takeNumber N R σ4 (R x0 0) (0 : Int32) (20 : Int32)) (fun a6 σ6 => bd (f_X10_failed N R σ6 (R x0 0)) (fun a8 σ8 => if a8 = 0 then (if a2 < 0 then (some ((), σ8)) else (if (24 : Int32) ≤ a2 then (some ((), σ8)) else (ck a2 24 (sq (up σ8 (R x1 7) a2.toNatClampNeg a4) (fun σ14 => ck a2 24 (sq (up σ14 (R x1 8) a2.toNatClampNeg a6) (fun σ17 => some ((), σ17)))))))) else (some ((), σ8))))))
set_option maxHeartbeats 4000000 in
set_option maxRecDepth 100000 in
theorem ok_X5_parseWind {l : Launch} {g : GL} {R : Nat → Nat → Nat} {L : Nat → Nat → Int64} {N : Nat} {σ : SI} {x0 : Nat} {x1 : Nat} {r : (Unit × SI)} (h : f_X5_parseWind N R σ x0 x1 = some r) (hSh : ShR R) (hx0 : Ok 194 x0 5) (hx1 : Ok 194 x1 9) : Ct l g 3 yX5_parseWind cX5_parseWind 5 none 194 194 0 0 [.ref (gb g + x0), .ref (gb g + x1)] (mkS σ R L) (PV R L r) := by
  refine Met.ofW (cc := cX5_parseWind) (maxL := 5) (ret := none) (by decide) rfl ?_
  intro p e s m args below meth c s₁ B hml hv
  obtain ⟨rfl, hE, hLo, hWd⟩ := hv
  have hr : meth.sig.returnType = none := B.returns
  have C : Cx l g p s m meth c cX5_parseWind 5 RX5 := ⟨B.exec, B.bytes, hml, findClass_of_methodNamed B.named, hE, hLo, B.notSynchronized⟩
  have S : S2 g s σ R L s.heap [] := ⟨hWd, va_S.rf⟩
  have hx := C.1
  have hb := C.2.1
  have hl := lv_entry ([.ref (gb g + x0), .ref (gb g + x1)]) (n := 5) (Nat.le_of_ble_eq_true rfl)
  rw [lg_entry_eq]
  generalize (lg_sl ([.ref (gb g + x0), .ref (gb g + x1)]) ++ List.replicate (5 - (lg_sl ([.ref (gb g + x0), .ref (gb g + x1)])).length) Slot.unset).toArray = ls at hl ⊢
  have hl : lv_has ls 5 [(0, .ref (gb g + x0)), (1, .ref (gb g + x1))] := hl
  generalize hH : s.heap = H at S ⊢
  generalize hlc : ([] : List Loc) = locs at S ⊢
  rw [f_X5_parseWind] at h
  refine lv_aload_n hx hb dX5_parseWind_0 rfl (lv_at hl 0 rfl) ?_
  have hR1 : Ok 194 (R x0 0) 10 := hSh x0 5 0 10 hx0.1 rfl
  refine x_getR C S KX5 hx0 0 (by decide) rfl rfl fl_RX5_12 hR1 dX5_parseWind_1 ?_
  refine lv_iconst (v := (0 : Int32)) hx hb dX5_parseWind_4 (by decide) ?_
  refine lv_bipush (v := (23 : Int32)) hx hb dX5_parseWind_5 (by decide) ?_
  obtain ⟨a2, σ2, hc2, h⟩ := bd_el h
  refine x_callVI C S KX10 hR1 (ok_X10_takeNumber (L := L) hc2 hSh hR1) ⟨cd_X10_takeNumber, ni_RX10, ml_RX5_73, in_X10_takeNumber, sl_X10_takeNumber⟩ ⟨by decide, by decide⟩ rfl ⟨by decide, by decide⟩ hl.1 rfl (Nat.le_of_ble_eq_true rfl) ⟨by decide, by decide⟩ dX5_parseWind_7 (fun H locs S => ?_)
  refine lv_istore_n (lv' := [(2, .int a2), (0, .ref (gb g + x0)), (1, .ref (gb g + x1))]) hx hb dX5_parseWind_10 rfl hl (by decide) rfl (fun ls hl => ?_)
  refine lv_aload_n hx hb dX5_parseWind_11 rfl (lv_at hl 1 rfl) ?_
  have hR3 : Ok 194 (R x0 0) 10 := hSh x0 5 0 10 hx0.1 rfl
  refine x_getR C S KX5 hx0 0 (by decide) rfl rfl fl_RX5_12 hR3 dX5_parseWind_12 ?_
  refine lv_iconst (v := (0 : Int32)) hx hb dX5_parseWind_15 (by decide) ?_
  refine lv_bipush (v := (7 : Int32)) hx hb dX5_parseWind_16 (by decide) ?_
  obtain ⟨a4, σ4, hc4, h⟩ := bd_el h
  refine x_callVI C S KX10 hR3 (ok_X10_takeNumber (L := L) hc4 hSh hR3) ⟨cd_X10_takeNumber, ni_RX10, ml_RX5_73, in_X10_takeNumber, sl_X10_takeNumber⟩ ⟨by decide, by decide⟩ rfl ⟨by decide, by decide⟩ hl.1 rfl (Nat.le_of_ble_eq_true rfl) ⟨by decide, by decide⟩ dX5_parseWind_18 (fun H locs S => ?_)
  refine lv_istore_n (lv' := [(3, .int a4), (2, .int a2), (0, .ref (gb g + x0)), (1, .ref (gb g + x1))]) hx hb dX5_parseWind_21 rfl hl (by decide) rfl (fun ls hl => ?_)
  refine lv_aload_n hx hb dX5_parseWind_22 rfl (lv_at hl 2 rfl) ?_
  have hR5 : Ok 194 (R x0 0) 10 := hSh x0 5 0 10 hx0.1 rfl
  refine x_getR C S KX5 hx0 0 (by decide) rfl rfl fl_RX5_12 hR5 dX5_parseWind_23 ?_
  refine lv_iconst (v := (0 : Int32)) hx hb dX5_parseWind_26 (by decide) ?_
  refine lv_bipush (v := (20 : Int32)) hx hb dX5_parseWind_27 (by decide) ?_
  obtain ⟨a6, σ6, hc6, h⟩ := bd_el h
  refine x_callVI C S KX10 hR5 (ok_X10_takeNumber (L := L) hc6 hSh hR5) ⟨cd_X10_takeNumber, ni_RX10, ml_RX5_73, in_X10_takeNumber, sl_X10_takeNumber⟩ ⟨by decide, by decide⟩ rfl ⟨by decide, by decide⟩ hl.1 rfl (Nat.le_of_ble_eq_true rfl) ⟨by decide, by decide⟩ dX5_parseWind_29 (fun H locs S => ?_)
  refine lv_istore (lv' := [(4, .int a6), (3, .int a4), (2, .int a2), (0, .ref (gb g + x0)), (1, .ref (gb g + x1))]) hx hb dX5_parseWind_32 hl (by decide) rfl (fun ls hl => ?_)
  refine lv_aload_n hx hb dX5_parseWind_34 rfl (lv_at hl 3 rfl) ?_
  have hR7 : Ok 194 (R x0 0) 10 := hSh x0 5 0 10 hx0.1 rfl
  refine x_getR C S KX5 hx0 0 (by decide) rfl rfl fl_RX5_12 hR7 dX5_parseWind_35 ?_
  obtain ⟨a8, σ8, hc8, h⟩ := bd_el h
  refine x_callVI C S KX10 hR7 (ok_X10_failed (L := L) hc8 hSh hR7) ⟨cd_X10_failed, ni_RX10, ml_RX5_26, in_X10_failed, sl_X10_failed⟩ ⟨by decide, by decide⟩ rfl ⟨by decide, by decide⟩ hl.1 rfl (Nat.le_of_ble_eq_true rfl) ⟨by decide, by decide⟩ dX5_parseWind_38 (fun H locs S => ?_)
  refine lv_if_ne (tgt := 69) hx hb dX5_parseWind_41 (by decide) (fun c9 => ?_) (fun c9 => ?_)
  · have h := it_n c9 h
    exact x_vret C S hr h dX5_parseWind_69
  · have h := it_p c9 h
    refine lv_iload_n hx hb dX5_parseWind_44 rfl (lv_at hl 2 rfl) ?_
    refine lv_if_lt (tgt := 69) hx hb dX5_parseWind_45 (by decide) (fun c10 => ?_) (fun c10 => ?_)
    · have h := it_p c10 h
      exact x_vret C S hr h dX5_parseWind_69
    · have h := it_n c10 h
      refine lv_iload_n hx hb dX5_parseWind_48 rfl (lv_at hl 2 rfl) ?_
      refine lv_bipush (v := (24 : Int32)) hx hb dX5_parseWind_49 (by decide) ?_
      refine lv_icmp_ge (tgt := 69) hx hb dX5_parseWind_51 (by decide) (fun c11 => ?_) (fun c11 => ?_)
      · have h := it_p c11 h
        exact x_vret C S hr h dX5_parseWind_69
      · have h := it_n c11 h
        refine lv_aload_n hx hb dX5_parseWind_54 rfl (lv_at hl 4 rfl) ?_
        have hR12 : Ok 194 (R x1 7) 10024 := hSh x1 9 7 10024 hx1.1 rfl
        refine x_getR C S KX9 hx1 7 (by decide) rfl rfl fl_RX5_105 hR12 dX5_parseWind_55 ?_
        refine lv_iload_n hx hb dX5_parseWind_58 rfl (lv_at hl 2 rfl) ?_
        refine lv_iload_n hx hb dX5_parseWind_59 rfl (lv_at hl 1 rfl) ?_
        obtain ⟨hi13, h⟩ := ck_el h
        obtain ⟨σ14, hs14, h⟩ := sq_el h
        refine x_iast (len := 24) C S (by decide) hR12 hi13 dX5_parseWind_60 hs14 (fun H locs S => ?_)
        refine lv_aload_n hx hb dX5_parseWind_61 rfl (lv_at hl 4 rfl) ?_
        have hR15 : Ok 194 (R x1 8) 10024 := hSh x1 9 8 10024 hx1.1 rfl
        refine x_getR C S KX9 hx1 8 (by decide) rfl rfl fl_RX5_109 hR15 dX5_parseWind_62 ?_
        refine lv_iload_n hx hb dX5_parseWind_65 rfl (lv_at hl 2 rfl) ?_
        refine lv_iload hx hb dX5_parseWind_66 (lv_at hl 0 rfl) ?_
        obtain ⟨hi16, h⟩ := ck_el h
        obtain ⟨σ17, hs17, h⟩ := sq_el h
        refine x_iast (len := 24) C S (by decide) hR15 hi16 dX5_parseWind_68 hs17 (fun H locs S => ?_)
        exact x_vret C S hr h dX5_parseWind_69
theorem dX5_parseRoad_0 : decode cX5_parseRoad 0 = .ok (.aload_n 1, 1) := by decide +kernel
theorem dX5_parseRoad_1 : decode cX5_parseRoad 1 = .ok (.getfield 157, 3) := by decide +kernel
theorem dX5_parseRoad_4 : decode cX5_parseRoad 4 = .ok (.bipush 6, 2) := by decide +kernel
theorem dX5_parseRoad_6 : decode cX5_parseRoad 6 = .ok (.if_icmp .lt 13, 3) := by decide +kernel
theorem dX5_parseRoad_9 : decode cX5_parseRoad 9 = .ok (.aload_n 0, 1) := by decide +kernel
theorem dX5_parseRoad_10 : decode cX5_parseRoad 10 = .ok (.getfield 12, 3) := by decide +kernel
theorem dX5_parseRoad_13 : decode cX5_parseRoad 13 = .ok (.iload_n 2, 1) := by decide +kernel
theorem dX5_parseRoad_14 : decode cX5_parseRoad 14 = .ok (.iconst 4, 1) := by decide +kernel
theorem dX5_parseRoad_15 : decode cX5_parseRoad 15 = .ok (.invokevirtual 115, 3) := by decide +kernel
theorem dX5_parseRoad_18 : decode cX5_parseRoad 18 = .ok (.return_, 1) := by decide +kernel
theorem dX5_parseRoad_19 : decode cX5_parseRoad 19 = .ok (.aload_n 1, 1) := by decide +kernel
theorem dX5_parseRoad_20 : decode cX5_parseRoad 20 = .ok (.getfield 157, 3) := by decide +kernel
theorem dX5_parseRoad_23 : decode cX5_parseRoad 23 = .ok (.istore_n 3, 1) := by decide +kernel
theorem dX5_parseRoad_24 : decode cX5_parseRoad 24 = .ok (.aload_n 1, 1) := by decide +kernel
theorem dX5_parseRoad_25 : decode cX5_parseRoad 25 = .ok (.getfield 160, 3) := by decide +kernel
theorem dX5_parseRoad_28 : decode cX5_parseRoad 28 = .ok (.iload_n 3, 1) := by decide +kernel
theorem dX5_parseRoad_29 : decode cX5_parseRoad 29 = .ok (.aaload, 1) := by decide +kernel
theorem dX5_parseRoad_30 : decode cX5_parseRoad 30 = .ok (.astore 4, 2) := by decide +kernel
theorem dX5_parseRoad_32 : decode cX5_parseRoad 32 = .ok (.aload_n 1, 1) := by decide +kernel
theorem dX5_parseRoad_33 : decode cX5_parseRoad 33 = .ok (.getfield 164, 3) := by decide +kernel
theorem dX5_parseRoad_36 : decode cX5_parseRoad 36 = .ok (.iload_n 3, 1) := by decide +kernel
theorem dX5_parseRoad_37 : decode cX5_parseRoad 37 = .ok (.aload_n 0, 1) := by decide +kernel
theorem dX5_parseRoad_38 : decode cX5_parseRoad 38 = .ok (.getfield 12, 3) := by decide +kernel
theorem dX5_parseRoad_41 : decode cX5_parseRoad 41 = .ok (.aload_n 1, 1) := by decide +kernel
theorem dX5_parseRoad_42 : decode cX5_parseRoad 42 = .ok (.getfield 164, 3) := by decide +kernel
theorem dX5_parseRoad_45 : decode cX5_parseRoad 45 = .ok (.iload_n 3, 1) := by decide +kernel
theorem dX5_parseRoad_46 : decode cX5_parseRoad 46 = .ok (.invokevirtual 126, 3) := by decide +kernel
theorem dX5_parseRoad_49 : decode cX5_parseRoad 49 = .ok (.iastore, 1) := by decide +kernel
theorem dX5_parseRoad_50 : decode cX5_parseRoad 50 = .ok (.aload 4, 2) := by decide +kernel
theorem dX5_parseRoad_52 : decode cX5_parseRoad 52 = .ok (.aload_n 0, 1) := by decide +kernel
theorem dX5_parseRoad_53 : decode cX5_parseRoad 53 = .ok (.getfield 12, 3) := by decide +kernel
theorem dX5_parseRoad_56 : decode cX5_parseRoad 56 = .ok (.iconst 0, 1) := by decide +kernel
theorem dX5_parseRoad_57 : decode cX5_parseRoad 57 = .ok (.sipush 999, 3) := by decide +kernel
theorem dX5_parseRoad_60 : decode cX5_parseRoad 60 = .ok (.invokevirtual 73, 3) := by decide +kernel
theorem dX5_parseRoad_63 : decode cX5_parseRoad 63 = .ok (.putfield 167, 3) := by decide +kernel
theorem dX5_parseRoad_66 : decode cX5_parseRoad 66 = .ok (.aload 4, 2) := by decide +kernel
theorem dX5_parseRoad_68 : decode cX5_parseRoad 68 = .ok (.aload_n 0, 1) := by decide +kernel
theorem dX5_parseRoad_69 : decode cX5_parseRoad 69 = .ok (.getfield 12, 3) := by decide +kernel
theorem dX5_parseRoad_72 : decode cX5_parseRoad 72 = .ok (.iconst 0, 1) := by decide +kernel
theorem dX5_parseRoad_73 : decode cX5_parseRoad 73 = .ok (.sipush 999, 3) := by decide +kernel
theorem dX5_parseRoad_76 : decode cX5_parseRoad 76 = .ok (.invokevirtual 73, 3) := by decide +kernel
theorem dX5_parseRoad_79 : decode cX5_parseRoad 79 = .ok (.putfield 172, 3) := by decide +kernel
theorem dX5_parseRoad_82 : decode cX5_parseRoad 82 = .ok (.aload 4, 2) := by decide +kernel
theorem dX5_parseRoad_84 : decode cX5_parseRoad 84 = .ok (.aload_n 0, 1) := by decide +kernel
theorem dX5_parseRoad_85 : decode cX5_parseRoad 85 = .ok (.getfield 12, 3) := by decide +kernel
theorem dX5_parseRoad_88 : decode cX5_parseRoad 88 = .ok (.iconst 0, 1) := by decide +kernel
theorem dX5_parseRoad_89 : decode cX5_parseRoad 89 = .ok (.sipush 999, 3) := by decide +kernel
theorem dX5_parseRoad_92 : decode cX5_parseRoad 92 = .ok (.invokevirtual 73, 3) := by decide +kernel
theorem dX5_parseRoad_95 : decode cX5_parseRoad 95 = .ok (.putfield 175, 3) := by decide +kernel
theorem dX5_parseRoad_98 : decode cX5_parseRoad 98 = .ok (.aload 4, 2) := by decide +kernel
theorem dX5_parseRoad_100 : decode cX5_parseRoad 100 = .ok (.aload_n 0, 1) := by decide +kernel
theorem dX5_parseRoad_101 : decode cX5_parseRoad 101 = .ok (.getfield 12, 3) := by decide +kernel
theorem dX5_parseRoad_104 : decode cX5_parseRoad 104 = .ok (.iconst 0, 1) := by decide +kernel
theorem dX5_parseRoad_105 : decode cX5_parseRoad 105 = .ok (.sipush 999, 3) := by decide +kernel
theorem dX5_parseRoad_108 : decode cX5_parseRoad 108 = .ok (.invokevirtual 73, 3) := by decide +kernel
theorem dX5_parseRoad_111 : decode cX5_parseRoad 111 = .ok (.putfield 178, 3) := by decide +kernel
theorem dX5_parseRoad_114 : decode cX5_parseRoad 114 = .ok (.aload_n 1, 1) := by decide +kernel
theorem dX5_parseRoad_115 : decode cX5_parseRoad 115 = .ok (.dup, 1) := by decide +kernel
theorem dX5_parseRoad_116 : decode cX5_parseRoad 116 = .ok (.getfield 157, 3) := by decide +kernel
theorem dX5_parseRoad_119 : decode cX5_parseRoad 119 = .ok (.iconst 1, 1) := by decide +kernel
theorem dX5_parseRoad_120 : decode cX5_parseRoad 120 = .ok (.iadd, 1) := by decide +kernel
theorem dX5_parseRoad_121 : decode cX5_parseRoad 121 = .ok (.putfield 157, 3) := by decide +kernel
theorem dX5_parseRoad_124 : decode cX5_parseRoad 124 = .ok (.return_, 1) := by decide +kernel
def f_X5_parseRoad (N : Nat) (R : Nat → Nat → Nat) (σ : SI) (x0 : Nat) (x1 : Nat) (x2 : Int32) : Option (Unit × SI) := if (σ x1 10) < (6 : Int32) then (ck (σ x1 10) 6 (bd (f_X10_takeName N R 6 σ (R x0 0) (R x1 4) (σ x1 10)) (fun a8 σ8 => ck (σ x1 10) 6 (sq (up σ8 (R x1 4) (σ x1 10).toNatClampNeg a8) (fun σ10 => bd (f_X10_takeNumber N R σ10 (R x0 0) (0 : Int32) (999 : Int32)) (fun a12 σ12 => sq (up σ12 (R (R x1 1) (σ x1 10).toNatClampNeg) 0 a12) (fun σ13 => bd (f_X10_takeNumber N R σ13 (R x0 0) (0 : Int32) (999 : Int32)) (fun a15 σ15 => sq (up σ15 (R (R x1 1) (σ x1 10).toNatClampNeg) 1 a15) (fun σ16 => bd (f_X10_takeNumber N R σ16 (R x0 0) (0 : Int32) (999 : Int32)) (fun a18 σ18 => sq (up σ18 (R (R x1 1) (σ x1 10).toNatClampNeg) 2 a18) (fun σ19 => bd (f_X10_takeNumber N R σ19 (R x0 0) (0 : Int32) (999 : Int32)) (fun a21 σ21 => sq (up σ21 (R (R x1 1) (σ x1 10).toNatClampNeg) 3 a21) (fun σ22 => sq (up σ22 x1 10 ((σ22 x1 10) + (1 : Int32))) (fun σ23 => some ((), σ23))))))))))))))) else (bd (f_X10_fail N R σ (R x0 0) x2 (4 : Int32)) (fun _ σ25 => some ((), σ25)))
set_option maxHeartbeats 4000000 in
set_option maxRecDepth 100000 in
theorem ok_X5_parseRoad {l : Launch} {g : GL} {R : Nat → Nat → Nat} {L : Nat → Nat → Int64} {N : Nat} {σ : SI} {x0 : Nat} {x1 : Nat} {x2 : Int32} {r : (Unit × SI)} (h : f_X5_parseRoad N R σ x0 x1 x2 = some r) (hSh : ShR R) (hx0 : Ok 194 x0 5) (hx1 : Ok 194 x1 9) : Ct l g 3 yX5_parseRoad cX5_parseRoad 5 none 194 194 0 0 [.ref (gb g + x0), .ref (gb g + x1), .int x2] (mkS σ R L) (PV R L r) := by
  refine Met.ofW (cc := cX5_parseRoad) (maxL := 5) (ret := none) (by decide) rfl ?_
  intro p e s m args below meth c s₁ B hml hv
  obtain ⟨rfl, hE, hLo, hWd⟩ := hv
  have hr : meth.sig.returnType = none := B.returns
  have C : Cx l g p s m meth c cX5_parseRoad 5 RX5 := ⟨B.exec, B.bytes, hml, findClass_of_methodNamed B.named, hE, hLo, B.notSynchronized⟩
  have S : S2 g s σ R L s.heap [] := ⟨hWd, va_S.rf⟩
  have hx := C.1
  have hb := C.2.1
  have hl := lv_entry ([.ref (gb g + x0), .ref (gb g + x1), .int x2]) (n := 5) (Nat.le_of_ble_eq_true rfl)
  rw [lg_entry_eq]
  generalize (lg_sl ([.ref (gb g + x0), .ref (gb g + x1), .int x2]) ++ List.replicate (5 - (lg_sl ([.ref (gb g + x0), .ref (gb g + x1), .int x2])).length) Slot.unset).toArray = ls at hl ⊢
  have hl : lv_has ls 5 [(0, .ref (gb g + x0)), (1, .ref (gb g + x1)), (2, .int x2)] := hl
  generalize hH : s.heap = H at S ⊢
  generalize hlc : ([] : List Loc) = locs at S ⊢
  rw [f_X5_parseRoad] at h
  refine lv_aload_n hx hb dX5_parseRoad_0 rfl (lv_at hl 1 rfl) ?_
  refine x_getI C S KX9 hx1 10 (by decide) rfl rfl fl_RX5_157 dX5_parseRoad_1 ?_
  refine lv_bipush (v := (6 : Int32)) hx hb dX5_parseRoad_4 (by decide) ?_
  refine lv_icmp_lt (tgt := 19) hx hb dX5_parseRoad_6 (by decide) (fun c1 => ?_) (fun c1 => ?_)
  · have h := it_p c1 h
    refine lv_aload_n hx hb dX5_parseRoad_19 rfl (lv_at hl 1 rfl) ?_
    refine x_getI C S KX9 hx1 10 (by decide) rfl rfl fl_RX5_157 dX5_parseRoad_20 ?_
    refine lv_istore_n (lv' := [(3, .int (σ x1 10)), (0, .ref (gb g + x0)), (1, .ref (gb g + x1)), (2, .int x2)]) hx hb dX5_parseRoad_23 rfl hl (by decide) rfl (fun ls hl => ?_)
    refine lv_aload_n hx hb dX5_parseRoad_24 rfl (lv_at hl 2 rfl) ?_
    have hR2 : Ok 194 (R x1 1) 70006 := hSh x1 9 1 70006 hx1.1 rfl
    refine x_getR C S KX9 hx1 1 (by decide) rfl rfl fl_RX5_160 hR2 dX5_parseRoad_25 ?_
    refine lv_iload_n hx hb dX5_parseRoad_28 rfl (lv_at hl 0 rfl) ?_
    obtain ⟨hi3, h⟩ := ck_el h
    have hR4 : Ok 194 (R (R x1 1) (σ x1 10).toNatClampNeg) 7 := hSh (R x1 1) 70006 (σ x1 10).toNatClampNeg 7 hR2.1 (if_pos (vp_lt hi3))
    refine x_aald (len := 6) C S (by decide) 6 (by decide) rfl hR2 hi3 hR4 dX5_parseRoad_29 ?_
    refine lv_astore (lv' := [(4, .ref (gb g + (R (R x1 1) (σ x1 10).toNatClampNeg))), (3, .int (σ x1 10)), (0, .ref (gb g + x0)), (1, .ref (gb g + x1)), (2, .int x2)]) hx hb dX5_parseRoad_30 hl (by decide) rfl (fun ls hl => ?_)
    refine lv_aload_n hx hb dX5_parseRoad_32 rfl (lv_at hl 3 rfl) ?_
    have hR5 : Ok 194 (R x1 4) 10006 := hSh x1 9 4 10006 hx1.1 rfl
    refine x_getR C S KX9 hx1 4 (by decide) rfl rfl fl_RX5_164 hR5 dX5_parseRoad_33 ?_
    refine lv_iload_n hx hb dX5_parseRoad_36 rfl (lv_at hl 1 rfl) ?_
    refine lv_aload_n hx hb dX5_parseRoad_37 rfl (lv_at hl 2 rfl) ?_
    have hR6 : Ok 194 (R x0 0) 10 := hSh x0 5 0 10 hx0.1 rfl
    refine x_getR C S KX5 hx0 0 (by decide) rfl rfl fl_RX5_12 hR6 dX5_parseRoad_38 ?_
    refine lv_aload_n hx hb dX5_parseRoad_41 rfl (lv_at hl 3 rfl) ?_
    have hR7 : Ok 194 (R x1 4) 10006 := hSh x1 9 4 10006 hx1.1 rfl
    refine x_getR C S KX9 hx1 4 (by decide) rfl rfl fl_RX5_164 hR7 dX5_parseRoad_42 ?_
    refine lv_iload_n hx hb dX5_parseRoad_45 rfl (lv_at hl 1 rfl) ?_
    obtain ⟨a8, σ8, hc8, h⟩ := bd_el h
    refine x_callVI C S KX10 hR6 (ok_X10_takeName (L := L) hc8 hSh (by decide) hR6 hR7) ⟨cd_X10_takeName, ni_RX10, ml_RX5_126, in_X10_takeName, sl_X10_takeName⟩ ⟨by decide, by decide⟩ rfl ⟨by decide, by decide⟩ hl.1 rfl (Nat.le_of_ble_eq_true rfl) ⟨by decide, by decide⟩ dX5_parseRoad_46 (fun H locs S => ?_)
    obtain ⟨hi9, h⟩ := ck_el h
    obtain ⟨σ10, hs10, h⟩ := sq_el h
    refine x_iast (len := 6) C S (by decide) hR5 hi9 dX5_parseRoad_49 hs10 (fun H locs S => ?_)
    refine lv_aload hx hb dX5_parseRoad_50 (lv_at hl 0 rfl) ?_
    refine lv_aload_n hx hb dX5_parseRoad_52 rfl (lv_at hl 2 rfl) ?_
    have hR11 : Ok 194 (R x0 0) 10 := hSh x0 5 0 10 hx0.1 rfl
    refine x_getR C S KX5 hx0 0 (by decide) rfl rfl fl_RX5_12 hR11 dX5_parseRoad_53 ?_
    refine lv_iconst (v := (0 : Int32)) hx hb dX5_parseRoad_56 (by decide) ?_
    refine lv_sipush (v := (999 : Int32)) hx hb dX5_parseRoad_57 (by decide) ?_
    obtain ⟨a12, σ12, hc12, h⟩ := bd_el h
    refine x_callVI C S KX10 hR11 (ok_X10_takeNumber (L := L) hc12 hSh hR11) ⟨cd_X10_takeNumber, ni_RX10, ml_RX5_73, in_X10_takeNumber, sl_X10_takeNumber⟩ ⟨by decide, by decide⟩ rfl ⟨by decide, by decide⟩ hl.1 rfl (Nat.le_of_ble_eq_true rfl) ⟨by decide, by decide⟩ dX5_parseRoad_60 (fun H locs S => ?_)
    obtain ⟨σ13, hs13, h⟩ := sq_el h
    refine x_putI C S KX7 hR4 0 (by decide) rfl rfl rfl ⟨rfl, rfl⟩ fl_RX5_167 dX5_parseRoad_63 hs13 (fun H locs S => ?_)
    refine lv_aload hx hb dX5_parseRoad_66 (lv_at hl 0 rfl) ?_
    refine lv_aload_n hx hb dX5_parseRoad_68 rfl (lv_at hl 2 rfl) ?_
    have hR14 : Ok 194 (R x0 0) 10 := hSh x0 5 0 10 hx0.1 rfl
    refine x_getR C S KX5 hx0 0 (by decide) rfl rfl fl_RX5_12 hR14 dX5_parseRoad_69 ?_
    refine lv_iconst (v := (0 : Int32)) hx hb dX5_parseRoad_72 (by decide) ?_
    refine lv_sipush (v := (999 : Int32)) hx hb dX5_parseRoad_73 (by decide) ?_
    obtain ⟨a15, σ15, hc15, h⟩ := bd_el h
    refine x_callVI C S KX10 hR14 (ok_X10_takeNumber (L := L) hc15 hSh hR14) ⟨cd_X10_takeNumber, ni_RX10, ml_RX5_73, in_X10_takeNumber, sl_X10_takeNumber⟩ ⟨by decide, by decide⟩ rfl ⟨by decide, by decide⟩ hl.1 rfl (Nat.le_of_ble_eq_true rfl) ⟨by decide, by decide⟩ dX5_parseRoad_76 (fun H locs S => ?_)
    obtain ⟨σ16, hs16, h⟩ := sq_el h
    refine x_putI C S KX7 hR4 1 (by decide) rfl rfl rfl ⟨rfl, rfl⟩ fl_RX5_172 dX5_parseRoad_79 hs16 (fun H locs S => ?_)
    refine lv_aload hx hb dX5_parseRoad_82 (lv_at hl 0 rfl) ?_
    refine lv_aload_n hx hb dX5_parseRoad_84 rfl (lv_at hl 2 rfl) ?_
    have hR17 : Ok 194 (R x0 0) 10 := hSh x0 5 0 10 hx0.1 rfl
    refine x_getR C S KX5 hx0 0 (by decide) rfl rfl fl_RX5_12 hR17 dX5_parseRoad_85 ?_
    refine lv_iconst (v := (0 : Int32)) hx hb dX5_parseRoad_88 (by decide) ?_
    refine lv_sipush (v := (999 : Int32)) hx hb dX5_parseRoad_89 (by decide) ?_
    obtain ⟨a18, σ18, hc18, h⟩ := bd_el h
    refine x_callVI C S KX10 hR17 (ok_X10_takeNumber (L := L) hc18 hSh hR17) ⟨cd_X10_takeNumber, ni_RX10, ml_RX5_73, in_X10_takeNumber, sl_X10_takeNumber⟩ ⟨by decide, by decide⟩ rfl ⟨by decide, by decide⟩ hl.1 rfl (Nat.le_of_ble_eq_true rfl) ⟨by decide, by decide⟩ dX5_parseRoad_92 (fun H locs S => ?_)
    obtain ⟨σ19, hs19, h⟩ := sq_el h
    refine x_putI C S KX7 hR4 2 (by decide) rfl rfl rfl ⟨rfl, rfl⟩ fl_RX5_175 dX5_parseRoad_95 hs19 (fun H locs S => ?_)
    refine lv_aload hx hb dX5_parseRoad_98 (lv_at hl 0 rfl) ?_
    refine lv_aload_n hx hb dX5_parseRoad_100 rfl (lv_at hl 2 rfl) ?_
    have hR20 : Ok 194 (R x0 0) 10 := hSh x0 5 0 10 hx0.1 rfl
    refine x_getR C S KX5 hx0 0 (by decide) rfl rfl fl_RX5_12 hR20 dX5_parseRoad_101 ?_
    refine lv_iconst (v := (0 : Int32)) hx hb dX5_parseRoad_104 (by decide) ?_
    refine lv_sipush (v := (999 : Int32)) hx hb dX5_parseRoad_105 (by decide) ?_
    obtain ⟨a21, σ21, hc21, h⟩ := bd_el h
    refine x_callVI C S KX10 hR20 (ok_X10_takeNumber (L := L) hc21 hSh hR20) ⟨cd_X10_takeNumber, ni_RX10, ml_RX5_73, in_X10_takeNumber, sl_X10_takeNumber⟩ ⟨by decide, by decide⟩ rfl ⟨by decide, by decide⟩ hl.1 rfl (Nat.le_of_ble_eq_true rfl) ⟨by decide, by decide⟩ dX5_parseRoad_108 (fun H locs S => ?_)
    obtain ⟨σ22, hs22, h⟩ := sq_el h
    refine x_putI C S KX7 hR4 3 (by decide) rfl rfl rfl ⟨rfl, rfl⟩ fl_RX5_178 dX5_parseRoad_111 hs22 (fun H locs S => ?_)
    refine lv_aload_n hx hb dX5_parseRoad_114 rfl (lv_at hl 3 rfl) ?_
    refine lv_dup hx hb dX5_parseRoad_115 rfl ?_
    refine x_getI C S KX9 hx1 10 (by decide) rfl rfl fl_RX5_157 dX5_parseRoad_116 ?_
    refine lv_iconst (v := (1 : Int32)) hx hb dX5_parseRoad_119 (by decide) ?_
    refine lv_iadd hx hb dX5_parseRoad_120 ?_
    obtain ⟨σ23, hs23, h⟩ := sq_el h
    refine x_putI C S KX9 hx1 10 (by decide) rfl rfl rfl ⟨rfl, rfl⟩ fl_RX5_157 dX5_parseRoad_121 hs23 (fun H locs S => ?_)
    exact x_vret C S hr h dX5_parseRoad_124
  · have h := it_n c1 h
    refine lv_aload_n hx hb dX5_parseRoad_9 rfl (lv_at hl 0 rfl) ?_
    have hR24 : Ok 194 (R x0 0) 10 := hSh x0 5 0 10 hx0.1 rfl
    refine x_getR C S KX5 hx0 0 (by decide) rfl rfl fl_RX5_12 hR24 dX5_parseRoad_10 ?_
    refine lv_iload_n hx hb dX5_parseRoad_13 rfl (lv_at hl 2 rfl) ?_
    refine lv_iconst (v := (4 : Int32)) hx hb dX5_parseRoad_14 (by decide) ?_
    obtain ⟨a25, σ25, hc25, h⟩ := bd_el h
    refine x_callVV C S KX10 hR24 (ok_X10_fail (L := L) hc25 hSh hR24) ⟨cd_X10_fail, ni_RX10, ml_RX5_115, in_X10_fail, sl_X10_fail⟩ ⟨by decide, by decide⟩ rfl ⟨by decide, by decide⟩ hl.1 rfl (Nat.le_of_ble_eq_true rfl) ⟨by decide, by decide⟩ dX5_parseRoad_15 (fun H locs S => ?_)
    exact x_vret C S hr h dX5_parseRoad_18
theorem dX6_newlyClosed_0 : decode cX6_newlyClosed 0 = .ok (.iconst 0, 1) := by decide +kernel
theorem dX6_newlyClosed_1 : decode cX6_newlyClosed 1 = .ok (.istore 4, 2) := by decide +kernel
theorem dX6_newlyClosed_3 : decode cX6_newlyClosed 3 = .ok (.iconst 0, 1) := by decide +kernel
theorem dX6_newlyClosed_4 : decode cX6_newlyClosed 4 = .ok (.istore 5, 2) := by decide +kernel
theorem dX6_newlyClosed_6 : decode cX6_newlyClosed 6 = .ok (.iload 5, 2) := by decide +kernel
theorem dX6_newlyClosed_8 : decode cX6_newlyClosed 8 = .ok (.aload_n 1, 1) := by decide +kernel
theorem dX6_newlyClosed_9 : decode cX6_newlyClosed 9 = .ok (.getfield 64, 3) := by decide +kernel
theorem dX6_newlyClosed_12 : decode cX6_newlyClosed 12 = .ok (.if_icmp .ge 36, 3) := by decide +kernel
theorem dX6_newlyClosed_15 : decode cX6_newlyClosed 15 = .ok (.aload_n 1, 1) := by decide +kernel
theorem dX6_newlyClosed_16 : decode cX6_newlyClosed 16 = .ok (.getfield 67, 3) := by decide +kernel
theorem dX6_newlyClosed_19 : decode cX6_newlyClosed 19 = .ok (.iload_n 2, 1) := by decide +kernel
theorem dX6_newlyClosed_20 : decode cX6_newlyClosed 20 = .ok (.aaload, 1) := by decide +kernel
theorem dX6_newlyClosed_21 : decode cX6_newlyClosed 21 = .ok (.iload 5, 2) := by decide +kernel
theorem dX6_newlyClosed_23 : decode cX6_newlyClosed 23 = .ok (.invokevirtual 71, 3) := by decide +kernel
theorem dX6_newlyClosed_26 : decode cX6_newlyClosed 26 = .ok (.ifCond .eq 16, 3) := by decide +kernel
theorem dX6_newlyClosed_29 : decode cX6_newlyClosed 29 = .ok (.iload 4, 2) := by decide +kernel
theorem dX6_newlyClosed_31 : decode cX6_newlyClosed 31 = .ok (.aload_n 0, 1) := by decide +kernel
theorem dX6_newlyClosed_32 : decode cX6_newlyClosed 32 = .ok (.aload_n 1, 1) := by decide +kernel
theorem dX6_newlyClosed_33 : decode cX6_newlyClosed 33 = .ok (.iload 5, 2) := by decide +kernel
theorem dX6_newlyClosed_35 : decode cX6_newlyClosed 35 = .ok (.iload_n 3, 1) := by decide +kernel
theorem dX6_newlyClosed_36 : decode cX6_newlyClosed 36 = .ok (.invokevirtual 77, 3) := by decide +kernel
theorem dX6_newlyClosed_39 : decode cX6_newlyClosed 39 = .ok (.iadd, 1) := by decide +kernel
theorem dX6_newlyClosed_40 : decode cX6_newlyClosed 40 = .ok (.istore 4, 2) := by decide +kernel
theorem dX6_newlyClosed_42 : decode cX6_newlyClosed 42 = .ok (.iinc 5 1, 3) := by decide +kernel
theorem dX6_newlyClosed_45 : decode cX6_newlyClosed 45 = .ok (.goto (-39), 3) := by decide +kernel
theorem dX6_newlyClosed_48 : decode cX6_newlyClosed 48 = .ok (.iload 4, 2) := by decide +kernel
theorem dX6_newlyClosed_50 : decode cX6_newlyClosed 50 = .ok (.ireturn, 1) := by decide +kernel
def f_X6_newlyClosed_42 (N : Nat) (R : Nat → Nat → Nat) (k6 : SI → Nat → Nat → Int32 → Int32 → Int32 → Int32 → Option (Int32 × SI)) (σ : SI) (x0 : Nat) (x1 : Nat) (x2 : Int32) (x3 : Int32) (x4 : Int32) (x5 : Int32) : Option (Int32 × SI) := k6 σ x0 x1 x2 x3 x4 (x5 + 1)
def f_X6_newlyClosed_6 (N : Nat) (R : Nat → Nat → Nat) : Nat → SI → Nat → Nat → Int32 → Int32 → Int32 → Int32 → Option (Int32 × SI)
  | 0, _, _, _, _, _, _, _ => none
  | n + 1, σ, x0, x1, x2, x3, x4, x5 => if (σ x1 10) ≤ x5 then (some (x4, σ)) else (ck x2 6 (bd (f_X0_closesRoad N R σ (R (R x1 2) x2.toNatClampNeg) x5) (fun a5 σ5 => if a5 = 0 then (f_X6_newlyClosed_42 N R (fun σ x0 x1 x2 x3 x4 x5 => f_X6_newlyClosed_6 N R n σ x0 x1 x2 x3 x4 x5) σ5 x0 x1 x2 x3 x4 x5) else (bd (f_X6_newlyClosedOf N R σ5 x0 x1 x5 x3) (fun a7 σ7 => f_X6_newlyClosed_42 N R (fun σ x0 x1 x2 x3 x4 x5 => f_X6_newlyClosed_6 N R n σ x0 x1 x2 x3 x4 x5) σ7 x0 x1 x2 x3 (x4 + a7) x5)))))
def f_X6_newlyClosed (N : Nat) (R : Nat → Nat → Nat) (σ : SI) (x0 : Nat) (x1 : Nat) (x2 : Int32) (x3 : Int32) : Option (Int32 × SI) := f_X6_newlyClosed_6 N R N σ x0 x1 x2 x3 (0 : Int32) (0 : Int32)
set_option maxHeartbeats 4000000 in
set_option maxRecDepth 100000 in
theorem w_X6_newlyClosed_42 {l : Launch} {g : GL} {p : Program} {e : Jvm.Env} {s : State} {m : MethodId} {args : Array Value} {below : List Frame} {meth : Method} {c : Code} {R : Nat → Nat → Nat} {L : Nat → Nat → Int64} {r : (Int32 × SI)} {N : Nat} {k6 : SI → Nat → Nat → Int32 → Int32 → Int32 → Int32 → Option (Int32 × SI)} (C : Cx l g p s m meth c cX6_newlyClosed 6 RX6) (hr : meth.sig.returnType = (some .int)) (hSh : ShR R) (hk6 : ∀ (σ : SI) (x0 : Nat) (x1 : Nat) (x2 : Int32) (x3 : Int32) (x4 : Int32) (x5 : Int32), k6 σ x0 x1 x2 x3 x4 x5 = some r → Ok 194 x0 6 → Ok 194 x1 9 → ∀ (H : Heap) (locs : List Loc) (ls : Array Slot), S2 g s σ R L H locs → lv_has ls 6 [(0, .ref (gb g + x0)), (1, .ref (gb g + x1)), (2, .int x2), (3, .int x3), (4, .int x4), (5, .int x5)] → W p l e (rmd 3 0 0) s m args below meth c H locs 0 0 (MQ below (Qg g 194 (PI R L r)) args s 0 0 (gA g)) (F0 m 6 ls [])) : ∀ (σ : SI) (x0 : Nat) (x1 : Nat) (x2 : Int32) (x3 : Int32) (x4 : Int32) (x5 : Int32), f_X6_newlyClosed_42 N R k6 σ x0 x1 x2 x3 x4 x5 = some r → Ok 194 x0 6 → Ok 194 x1 9 → ∀ (H : Heap) (locs : List Loc) (ls : Array Slot), S2 g s σ R L H locs → lv_has ls 6 [(0, .ref (gb g + x0)), (1, .ref (gb g + x1)), (2, .int x2), (3, .int x3), (4, .int x4), (5, .int x5)] → W p l e (rmd 3 0 0) s m args below meth c H locs 0 0 (MQ below (Qg g 194 (PI R L r)) args s 0 0 (gA g)) (F0 m 42 ls []) := by
  have hx := C.1
  have hb := C.2.1
  intro σ x0 x1 x2 x3 x4 x5 h hx0 hx1 H locs ls S hl
  rw [f_X6_newlyClosed_42] at h
  refine lv_iinc (v := x5 + 1) (lv' := [(5, .int (x5 + 1)), (0, .ref (gb g + x0)), (1, .ref (gb g + x1)), (2, .int x2), (3, .int x3), (4, .int x4)]) hx hb dX6_newlyClosed_42 hl (k := 5) rfl rfl (by decide) rfl (fun ls hl => ?_)
  refine lv_goto (tgt := 6) hx hb dX6_newlyClosed_45 (by decide) ?_
  exact hk6 σ x0 x1 x2 x3 x4 (x5 + 1) h hx0 hx1 H locs ls S (lv_sub hl [1, 2, 3, 4, 5, 0] rfl)
set_option maxHeartbeats 4000000 in
set_option maxRecDepth 100000 in
theorem w_X6_newlyClosed_6 {l : Launch} {g : GL} {p : Program} {e : Jvm.Env} {s : State} {m : MethodId} {args : Array Value} {below : List Frame} {meth : Method} {c : Code} {R : Nat → Nat → Nat} {L : Nat → Nat → Int64} {r : (Int32 × SI)} {N : Nat} (C : Cx l g p s m meth c cX6_newlyClosed 6 RX6) (hr : meth.sig.returnType = (some .int)) (hSh : ShR R) : ∀ (n : Nat) (σ : SI) (x0 : Nat) (x1 : Nat) (x2 : Int32) (x3 : Int32) (x4 : Int32) (x5 : Int32), f_X6_newlyClosed_6 N R n σ x0 x1 x2 x3 x4 x5 = some r → Ok 194 x0 6 → Ok 194 x1 9 → ∀ (H : Heap) (locs : List Loc) (ls : Array Slot), S2 g s σ R L H locs → lv_has ls 6 [(0, .ref (gb g + x0)), (1, .ref (gb g + x1)), (2, .int x2), (3, .int x3), (4, .int x4), (5, .int x5)] → W p l e (rmd 3 0 0) s m args below meth c H locs 0 0 (MQ below (Qg g 194 (PI R L r)) args s 0 0 (gA g)) (F0 m 6 ls []) := by
  have hx := C.1
  have hb := C.2.1
  intro n
  induction n with
  | zero =>
    intro σ x0 x1 x2 x3 x4 x5 h
    cases (show (none : Option (Int32 × SI)) = some r from h)
  | succ n ih =>
    intro σ x0 x1 x2 x3 x4 x5 h hx0 hx1 H locs ls S hl
    rw [f_X6_newlyClosed_6] at h
    refine lv_iload hx hb dX6_newlyClosed_6 (lv_at hl 5 rfl) ?_
    refine lv_aload_n hx hb dX6_newlyClosed_8 rfl (lv_at hl 1 rfl) ?_
    refine x_getI C S KX9 hx1 10 (by decide) rfl rfl fl_RX6_64 dX6_newlyClosed_9 ?_
    refine lv_icmp_ge (tgt := 48) hx hb dX6_newlyClosed_12 (by decide) (fun c1 => ?_) (fun c1 => ?_)
    · have h := it_p c1 h
      refine lv_iload hx hb dX6_newlyClosed_48 (lv_at hl 4 rfl) ?_
      exact x_iret C S hr h dX6_newlyClosed_50
    · have h := it_n c1 h
      refine lv_aload_n hx hb dX6_newlyClosed_15 rfl (lv_at hl 1 rfl) ?_
      have hR2 : Ok 194 (R x1 2) 50006 := hSh x1 9 2 50006 hx1.1 rfl
      refine x_getR C S KX9 hx1 2 (by decide) rfl rfl fl_RX6_67 hR2 dX6_newlyClosed_16 ?_
      refine lv_iload_n hx hb dX6_newlyClosed_19 rfl (lv_at hl 2 rfl) ?_
      obtain ⟨hi3, h⟩ := ck_el h
      have hR4 : Ok 194 (R (R x1 2) x2.toNatClampNeg) 0 := hSh (R x1 2) 50006 x2.toNatClampNeg 0 hR2.1 (if_pos (vp_lt hi3))
      refine x_aald (len := 6) C S (by decide) 4 (by decide) rfl hR2 hi3 hR4 dX6_newlyClosed_20 ?_
      refine lv_iload hx hb dX6_newlyClosed_21 (lv_at hl 5 rfl) ?_
      obtain ⟨a5, σ5, hc5, h⟩ := bd_el h
      refine x_callVI C S KX0 hR4 (ok_X0_closesRoad (L := L) hc5 hSh hR4) ⟨cd_X0_closesRoad, ni_RX0, ml_RX6_71, in_X0_closesRoad, sl_X0_closesRoad⟩ ⟨by decide, by decide⟩ rfl ⟨by decide, by decide⟩ hl.1 rfl (Nat.le_of_ble_eq_true rfl) ⟨by decide, by decide⟩ dX6_newlyClosed_23 (fun H locs S => ?_)
      refine lv_if_eq (tgt := 42) hx hb dX6_newlyClosed_26 (by decide) (fun c6 => ?_) (fun c6 => ?_)
      · have h := it_p c6 h
        exact w_X6_newlyClosed_42 C hr hSh ih σ5 x0 x1 x2 x3 x4 x5 h hx0 hx1 H locs ls S (lv_sub hl [0, 1, 2, 3, 4, 5] rfl)
      · have h := it_n c6 h
        refine lv_iload hx hb dX6_newlyClosed_29 (lv_at hl 4 rfl) ?_
        refine lv_aload_n hx hb dX6_newlyClosed_31 rfl (lv_at hl 0 rfl) ?_
        refine lv_aload_n hx hb dX6_newlyClosed_32 rfl (lv_at hl 1 rfl) ?_
        refine lv_iload hx hb dX6_newlyClosed_33 (lv_at hl 5 rfl) ?_
        refine lv_iload_n hx hb dX6_newlyClosed_35 rfl (lv_at hl 3 rfl) ?_
        obtain ⟨a7, σ7, hc7, h⟩ := bd_el h
        refine x_callVI C S KX6 hx0 (ok_X6_newlyClosedOf (L := L) hc7 hSh hx0 hx1) ⟨cd_X6_newlyClosedOf, ni_RX6, ml_RX6_77, in_X6_newlyClosedOf, sl_X6_newlyClosedOf⟩ ⟨by decide, by decide⟩ rfl ⟨by decide, by decide⟩ hl.1 rfl (Nat.le_of_ble_eq_true rfl) ⟨by decide, by decide⟩ dX6_newlyClosed_36 (fun H locs S => ?_)
        refine lv_iadd hx hb dX6_newlyClosed_39 ?_
        refine lv_istore (lv' := [(4, .int (x4 + a7)), (0, .ref (gb g + x0)), (1, .ref (gb g + x1)), (2, .int x2), (3, .int x3), (5, .int x5)]) hx hb dX6_newlyClosed_40 hl (by decide) rfl (fun ls hl => ?_)
        exact w_X6_newlyClosed_42 C hr hSh ih σ7 x0 x1 x2 x3 (x4 + a7) x5 h hx0 hx1 H locs ls S (lv_sub hl [1, 2, 3, 4, 0, 5] rfl)
set_option maxHeartbeats 4000000 in
set_option maxRecDepth 100000 in
theorem ok_X6_newlyClosed {l : Launch} {g : GL} {R : Nat → Nat → Nat} {L : Nat → Nat → Int64} {N : Nat} {σ : SI} {x0 : Nat} {x1 : Nat} {x2 : Int32} {x3 : Int32} {r : (Int32 × SI)} (h : f_X6_newlyClosed N R σ x0 x1 x2 x3 = some r) (hSh : ShR R) (hx0 : Ok 194 x0 6) (hx1 : Ok 194 x1 9) : Ct l g 3 yX6_newlyClosed cX6_newlyClosed 6 (some .int) 194 194 0 0 [.ref (gb g + x0), .ref (gb g + x1), .int x2, .int x3] (mkS σ R L) (PI R L r) := by
  refine Met.ofW (cc := cX6_newlyClosed) (maxL := 6) (ret := (some .int)) (by decide) rfl ?_
  intro p e s m args below meth c s₁ B hml hv
  obtain ⟨rfl, hE, hLo, hWd⟩ := hv
  have hr : meth.sig.returnType = (some .int) := B.returns
  have C : Cx l g p s m meth c cX6_newlyClosed 6 RX6 := ⟨B.exec, B.bytes, hml, findClass_of_methodNamed B.named, hE, hLo, B.notSynchronized⟩
  have S : S2 g s σ R L s.heap [] := ⟨hWd, va_S.rf⟩
  have hx := C.1
  have hb := C.2.1
  have hl := lv_entry ([.ref (gb g + x0), .ref (gb g + x1), .int x2, .int x3]) (n := 6) (Nat.le_of_ble_eq_true rfl)
  rw [lg_entry_eq]
  generalize (lg_sl ([.ref (gb g + x0), .ref (gb g + x1), .int x2, .int x3]) ++ List.replicate (6 - (lg_sl ([.ref (gb g + x0), .ref (gb g + x1), .int x2, .int x3])).length) Slot.unset).toArray = ls at hl ⊢
  have hl : lv_has ls 6 [(0, .ref (gb g + x0)), (1, .ref (gb g + x1)), (2, .int x2), (3, .int x3)] := hl
  generalize hH : s.heap = H at S ⊢
  generalize hlc : ([] : List Loc) = locs at S ⊢
  rw [f_X6_newlyClosed] at h
  refine lv_iconst (v := (0 : Int32)) hx hb dX6_newlyClosed_0 (by decide) ?_
  refine lv_istore (lv' := [(4, .int (0 : Int32)), (0, .ref (gb g + x0)), (1, .ref (gb g + x1)), (2, .int x2), (3, .int x3)]) hx hb dX6_newlyClosed_1 hl (by decide) rfl (fun ls hl => ?_)
  refine lv_iconst (v := (0 : Int32)) hx hb dX6_newlyClosed_3 (by decide) ?_
  refine lv_istore (lv' := [(5, .int (0 : Int32)), (4, .int (0 : Int32)), (0, .ref (gb g + x0)), (1, .ref (gb g + x1)), (2, .int x2), (3, .int x3)]) hx hb dX6_newlyClosed_4 hl (by decide) rfl (fun ls hl => ?_)
  exact w_X6_newlyClosed_6 C hr hSh N σ x0 x1 x2 x3 (0 : Int32) (0 : Int32) h hx0 hx1 H locs ls S (lv_sub hl [2, 3, 4, 5, 1, 0] rfl)
theorem dX11_busiestHour_0 : decode cX11_busiestHour 0 = .ok (.aload_n 0, 1) := by decide +kernel
theorem dX11_busiestHour_1 : decode cX11_busiestHour 1 = .ok (.invokevirtual 302, 3) := by decide +kernel
theorem dX11_busiestHour_4 : decode cX11_busiestHour 4 = .ok (.iconst (-1), 1) := by decide +kernel
theorem dX11_busiestHour_5 : decode cX11_busiestHour 5 = .ok (.istore_n 1, 1) := by decide +kernel
theorem dX11_busiestHour_6 : decode cX11_busiestHour 6 = .ok (.iconst 0, 1) := by decide +kernel
theorem dX11_busiestHour_7 : decode cX11_busiestHour 7 = .ok (.istore_n 2, 1) := by decide +kernel
theorem dX11_busiestHour_8 : decode cX11_busiestHour 8 = .ok (.iconst 0, 1) := by decide +kernel
theorem dX11_busiestHour_9 : decode cX11_busiestHour 9 = .ok (.istore_n 3, 1) := by decide +kernel
theorem dX11_busiestHour_10 : decode cX11_busiestHour 10 = .ok (.iload_n 3, 1) := by decide +kernel
theorem dX11_busiestHour_11 : decode cX11_busiestHour 11 = .ok (.bipush 24, 2) := by decide +kernel
theorem dX11_busiestHour_13 : decode cX11_busiestHour 13 = .ok (.if_icmp .ge 28, 3) := by decide +kernel
theorem dX11_busiestHour_16 : decode cX11_busiestHour 16 = .ok (.aload_n 0, 1) := by decide +kernel
theorem dX11_busiestHour_17 : decode cX11_busiestHour 17 = .ok (.getfield 54, 3) := by decide +kernel
theorem dX11_busiestHour_20 : decode cX11_busiestHour 20 = .ok (.iload_n 3, 1) := by decide +kernel
theorem dX11_busiestHour_21 : decode cX11_busiestHour 21 = .ok (.iaload, 1) := by decide +kernel
theorem dX11_busiestHour_22 : decode cX11_busiestHour 22 = .ok (.iload_n 2, 1) := by decide +kernel
theorem dX11_busiestHour_23 : decode cX11_busiestHour 23 = .ok (.if_icmp .le 12, 3) := by decide +kernel
theorem dX11_busiestHour_26 : decode cX11_busiestHour 26 = .ok (.aload_n 0, 1) := by decide +kernel
theorem dX11_busiestHour_27 : decode cX11_busiestHour 27 = .ok (.getfield 54, 3) := by decide +kernel
theorem dX11_busiestHour_30 : decode cX11_busiestHour 30 = .ok (.iload_n 3, 1) := by decide +kernel
theorem dX11_busiestHour_31 : decode cX11_busiestHour 31 = .ok (.iaload, 1) := by decide +kernel
theorem dX11_busiestHour_32 : decode cX11_busiestHour 32 = .ok (.istore_n 2, 1) := by decide +kernel
theorem dX11_busiestHour_33 : decode cX11_busiestHour 33 = .ok (.iload_n 3, 1) := by decide +kernel
theorem dX11_busiestHour_34 : decode cX11_busiestHour 34 = .ok (.istore_n 1, 1) := by decide +kernel
theorem dX11_busiestHour_35 : decode cX11_busiestHour 35 = .ok (.iinc 3 1, 3) := by decide +kernel
theorem dX11_busiestHour_38 : decode cX11_busiestHour 38 = .ok (.goto (-28), 3) := by decide +kernel
theorem dX11_busiestHour_41 : decode cX11_busiestHour 41 = .ok (.iload_n 1, 1) := by decide +kernel
theorem dX11_busiestHour_42 : decode cX11_busiestHour 42 = .ok (.ireturn, 1) := by decide +kernel
def f_X11_busiestHour_35 (N : Nat) (R : Nat → Nat → Nat) (k10 : SI → Nat → Int32 → Int32 → Int32 → Option (Int32 × SI)) (σ : SI) (x0 : Nat) (x1 : Int32) (x2 : Int32) (x3 : Int32) : Option (Int32 × SI) := k10 σ x0 x1 x2 (x3 + 1)
def f_X11_busiestHour_10 (N : Nat) (R : Nat → Nat → Nat) : Nat → SI → Nat → Int32 → Int32 → Int32 → Option (Int32 × SI)
  | 0, _, _, _, _, _ => none
  | n + 1, σ, x0, x1, x2, x3 => if (24 : Int32) ≤ x3 then (some (x1, σ)) else (ck x3 24 (if (σ (R x0 7) x3.toNatClampNeg) ≤ x2 then (f_X11_busiestHour_35 N R (fun σ x0 x1 x2 x3 => f_X11_busiestHour_10 N R n σ x0 x1 x2 x3) σ x0 x1 x2 x3) else (ck x3 24 (f_X11_busiestHour_35 N R (fun σ x0 x1 x2 x3 => f_X11_busiestHour_10 N R n σ x0 x1 x2 x3) σ x0 x3 (σ (R x0 7) x3.toNatClampNeg) x3))))
def f_X11_busiestHour (N : Nat) (R : Nat → Nat → Nat) (σ : SI) (x0 : Nat) : Option (Int32 × SI) := bd (f_X11_sumHours N R σ x0) (fun _ σ1 => f_X11_busiestHour_10 N R N σ1 x0 (-1 : Int32) (0 : Int32) (0 : Int32))
set_option maxHeartbeats 4000000 in
set_option maxRecDepth 100000 in
theorem w_X11_busiestHour_35 {l : Launch} {g : GL} {p : Program} {e : Jvm.Env} {s : State} {m : MethodId} {args : Array Value} {below : List Frame} {meth : Method} {c : Code} {R : Nat → Nat → Nat} {L : Nat → Nat → Int64} {r : (Int32 × SI)} {N : Nat} {k10 : SI → Nat → Int32 → Int32 → Int32 → Option (Int32 × SI)} (C : Cx l g p s m meth c cX11_busiestHour 4 RX11) (hr : meth.sig.returnType = (some .int)) (hSh : ShR R) (hk10 : ∀ (σ : SI) (x0 : Nat) (x1 : Int32) (x2 : Int32) (x3 : Int32), k10 σ x0 x1 x2 x3 = some r → Ok 194 x0 11 → ∀ (H : Heap) (locs : List Loc) (ls : Array Slot), S2 g s σ R L H locs → lv_has ls 4 [(0, .ref (gb g + x0)), (1, .int x1), (2, .int x2), (3, .int x3)] → W p l e (rmd 5 0 0) s m args below meth c H locs 0 0 (MQ below (Qg g 194 (PI R L r)) args s 0 0 (gA g)) (F0 m 10 ls [])) : ∀ (σ : SI) (x0 : Nat) (x1 : Int32) (x2 : Int32) (x3 : Int32), f_X11_busiestHour_35 N R k10 σ x0 x1 x2 x3 = some r → Ok 194 x0 11 → ∀ (H : Heap) (locs : List Loc) (ls : Array Slot), S2 g s σ R L H locs → lv_has ls 4 [(0, .ref (gb g + x0)), (1, .int x1), (2, .int x2), (3, .int x3)] → W p l e (rmd 5 0 0) s m args below meth c H locs 0 0 (MQ below (Qg g 194 (PI R L r)) args s 0 0 (gA g)) (F0 m 35 ls []) := by
  have hx := C.1
  have hb := C.2.1
  intro σ x0 x1 x2 x3 h hx0 H locs ls S hl
  rw [f_X11_busiestHour_35] at h
  refine lv_iinc (v := x3 + 1) (lv' := [(3, .int (x3 + 1)), (0, .ref (gb g + x0)), (1, .int x1), (2, .int x2)]) hx hb dX11_busiestHour_35 hl (k := 3) rfl rfl (by decide) rfl (fun ls hl => ?_)
  refine lv_goto (tgt := 10) hx hb dX11_busiestHour_38 (by decide) ?_
  exact hk10 σ x0 x1 x2 (x3 + 1) h hx0 H locs ls S (lv_sub hl [1, 2, 3, 0] rfl)
set_option maxHeartbeats 4000000 in
set_option maxRecDepth 100000 in
theorem w_X11_busiestHour_10 {l : Launch} {g : GL} {p : Program} {e : Jvm.Env} {s : State} {m : MethodId} {args : Array Value} {below : List Frame} {meth : Method} {c : Code} {R : Nat → Nat → Nat} {L : Nat → Nat → Int64} {r : (Int32 × SI)} {N : Nat} (C : Cx l g p s m meth c cX11_busiestHour 4 RX11) (hr : meth.sig.returnType = (some .int)) (hSh : ShR R) : ∀ (n : Nat) (σ : SI) (x0 : Nat) (x1 : Int32) (x2 : Int32) (x3 : Int32), f_X11_busiestHour_10 N R n σ x0 x1 x2 x3 = some r → Ok 194 x0 11 → ∀ (H : Heap) (locs : List Loc) (ls : Array Slot), S2 g s σ R L H locs → lv_has ls 4 [(0, .ref (gb g + x0)), (1, .int x1), (2, .int x2), (3, .int x3)] → W p l e (rmd 5 0 0) s m args below meth c H locs 0 0 (MQ below (Qg g 194 (PI R L r)) args s 0 0 (gA g)) (F0 m 10 ls []) := by
  have hx := C.1
  have hb := C.2.1
  intro n
  induction n with
  | zero =>
    intro σ x0 x1 x2 x3 h
    cases (show (none : Option (Int32 × SI)) = some r from h)
  | succ n ih =>
    intro σ x0 x1 x2 x3 h hx0 H locs ls S hl
    rw [f_X11_busiestHour_10] at h
    refine lv_iload_n hx hb dX11_busiestHour_10 rfl (lv_at hl 3 rfl) ?_
    refine lv_bipush (v := (24 : Int32)) hx hb dX11_busiestHour_11 (by decide) ?_
    refine lv_icmp_ge (tgt := 41) hx hb dX11_busiestHour_13 (by decide) (fun c2 => ?_) (fun c2 => ?_)
    · have h := it_p c2 h
      refine lv_iload_n hx hb dX11_busiestHour_41 rfl (lv_at hl 1 rfl) ?_
      exact x_iret C S hr h dX11_busiestHour_42
    · have h := it_n c2 h
      refine lv_aload_n hx hb dX11_busiestHour_16 rfl (lv_at hl 0 rfl) ?_
      have hR3 : Ok 194 (R x0 7) 10024 := hSh x0 11 7 10024 hx0.1 rfl
      refine x_getR C S KX11 hx0 7 (by decide) rfl rfl fl_RX11_54 hR3 dX11_busiestHour_17 ?_
      refine lv_iload_n hx hb dX11_busiestHour_20 rfl (lv_at hl 3 rfl) ?_
      obtain ⟨hi4, h⟩ := ck_el h
      refine x_iald (len := 24) C S (by decide) hR3 hi4 dX11_busiestHour_21 ?_
      refine lv_iload_n hx hb dX11_busiestHour_22 rfl (lv_at hl 2 rfl) ?_
      refine lv_icmp_le (tgt := 35) hx hb dX11_busiestHour_23 (by decide) (fun c5 => ?_) (fun c5 => ?_)
      · have h := it_p c5 h
        exact w_X11_busiestHour_35 C hr hSh ih σ x0 x1 x2 x3 h hx0 H locs ls S (lv_sub hl [0, 1, 2, 3] rfl)
      · have h := it_n c5 h
        refine lv_aload_n hx hb dX11_busiestHour_26 rfl (lv_at hl 0 rfl) ?_
        have hR6 : Ok 194 (R x0 7) 10024 := hSh x0 11 7 10024 hx0.1 rfl
        refine x_getR C S KX11 hx0 7 (by decide) rfl rfl fl_RX11_54 hR6 dX11_busiestHour_27 ?_
        refine lv_iload_n hx hb dX11_busiestHour_30 rfl (lv_at hl 3 rfl) ?_
        obtain ⟨hi7, h⟩ := ck_el h
        refine x_iald (len := 24) C S (by decide) hR6 hi7 dX11_busiestHour_31 ?_
        refine lv_istore_n (lv' := [(2, .int (σ (R x0 7) x3.toNatClampNeg)), (0, .ref (gb g + x0)), (1, .int x1), (3, .int x3)]) hx hb dX11_busiestHour_32 rfl hl (by decide) rfl (fun ls hl => ?_)
        refine lv_iload_n hx hb dX11_busiestHour_33 rfl (lv_at hl 3 rfl) ?_
        refine lv_istore_n (lv' := [(1, .int x3), (2, .int (σ (R x0 7) x3.toNatClampNeg)), (0, .ref (gb g + x0)), (3, .int x3)]) hx hb dX11_busiestHour_34 rfl hl (by decide) rfl (fun ls hl => ?_)
        exact w_X11_busiestHour_35 C hr hSh ih σ x0 x3 (σ (R x0 7) x3.toNatClampNeg) x3 h hx0 H locs ls S (lv_sub hl [2, 0, 1, 3] rfl)
set_option maxHeartbeats 4000000 in
set_option maxRecDepth 100000 in
theorem ok_X11_busiestHour {l : Launch} {g : GL} {R : Nat → Nat → Nat} {L : Nat → Nat → Int64} {N : Nat} {σ : SI} {x0 : Nat} {r : (Int32 × SI)} (h : f_X11_busiestHour N R σ x0 = some r) (hSh : ShR R) (hx0 : Ok 194 x0 11) : Ct l g 5 yX11_busiestHour cX11_busiestHour 4 (some .int) 194 194 0 0 [.ref (gb g + x0)] (mkS σ R L) (PI R L r) := by
  refine Met.ofW (cc := cX11_busiestHour) (maxL := 4) (ret := (some .int)) (by decide) rfl ?_
  intro p e s m args below meth c s₁ B hml hv
  obtain ⟨rfl, hE, hLo, hWd⟩ := hv
  have hr : meth.sig.returnType = (some .int) := B.returns
  have C : Cx l g p s m meth c cX11_busiestHour 4 RX11 := ⟨B.exec, B.bytes, hml, findClass_of_methodNamed B.named, hE, hLo, B.notSynchronized⟩
  have S : S2 g s σ R L s.heap [] := ⟨hWd, va_S.rf⟩
  have hx := C.1
  have hb := C.2.1
  have hl := lv_entry ([.ref (gb g + x0)]) (n := 4) (Nat.le_of_ble_eq_true rfl)
  rw [lg_entry_eq]
  generalize (lg_sl ([.ref (gb g + x0)]) ++ List.replicate (4 - (lg_sl ([.ref (gb g + x0)])).length) Slot.unset).toArray = ls at hl ⊢
  have hl : lv_has ls 4 [(0, .ref (gb g + x0))] := hl
  generalize hH : s.heap = H at S ⊢
  generalize hlc : ([] : List Loc) = locs at S ⊢
  rw [f_X11_busiestHour] at h
  refine lv_aload_n hx hb dX11_busiestHour_0 rfl (lv_at hl 0 rfl) ?_
  obtain ⟨a1, σ1, hc1, h⟩ := bd_el h
  refine x_callVV C S KX11 hx0 (ok_X11_sumHours (L := L) hc1 hSh hx0) ⟨cd_X11_sumHours, ni_RX11, ml_RX11_302, in_X11_sumHours, sl_X11_sumHours⟩ ⟨by decide, by decide⟩ rfl ⟨by decide, by decide⟩ hl.1 rfl (Nat.le_of_ble_eq_true rfl) ⟨by decide, by decide⟩ dX11_busiestHour_1 (fun H locs S => ?_)
  refine lv_iconst (v := (-1 : Int32)) hx hb dX11_busiestHour_4 (by decide) ?_
  refine lv_istore_n (lv' := [(1, .int (-1 : Int32)), (0, .ref (gb g + x0))]) hx hb dX11_busiestHour_5 rfl hl (by decide) rfl (fun ls hl => ?_)
  refine lv_iconst (v := (0 : Int32)) hx hb dX11_busiestHour_6 (by decide) ?_
  refine lv_istore_n (lv' := [(2, .int (0 : Int32)), (1, .int (-1 : Int32)), (0, .ref (gb g + x0))]) hx hb dX11_busiestHour_7 rfl hl (by decide) rfl (fun ls hl => ?_)
  refine lv_iconst (v := (0 : Int32)) hx hb dX11_busiestHour_8 (by decide) ?_
  refine lv_istore_n (lv' := [(3, .int (0 : Int32)), (2, .int (0 : Int32)), (1, .int (-1 : Int32)), (0, .ref (gb g + x0))]) hx hb dX11_busiestHour_9 rfl hl (by decide) rfl (fun ls hl => ?_)
  exact w_X11_busiestHour_10 C hr hSh N σ1 x0 (-1 : Int32) (0 : Int32) (0 : Int32) h hx0 H locs ls S (lv_sub hl [3, 2, 1, 0] rfl)
